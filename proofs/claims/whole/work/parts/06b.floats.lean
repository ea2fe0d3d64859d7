theorem zw1_1 : Cond.initialized RX9 ∈ zWL := zw_in (zw_1 (List.mem_of_getElem? (i := 1) (by decide +kernel))) rfl
theorem zw1_11 : Cond.initialized RJxe99ae ∈ zWL := zw_in (zw_1 (List.mem_of_getElem? (i := 11) (by decide +kernel))) rfl
theorem zw1_12 : Cond.initialized RJxf58ca ∈ zWL := zw_in (zw_1 (List.mem_of_getElem? (i := 12) (by decide +kernel))) rfl
theorem zw3_100 : Cond.methodLink RX9 123 yX1_standingOf ∈ zWL := zw_in (zw_3 (List.mem_of_getElem? (i := 100) (by decide +kernel))) rfl
theorem zw3_101 : Cond.constantLong RX9 126 (-4 : Int64) ∈ zWL := zw_in (zw_3 (List.mem_of_getElem? (i := 101) (by decide +kernel))) rfl
theorem zw3_102 : Cond.methodLink RX9 128 yX1_lentLockers ∈ zWL := zw_in (zw_3 (List.mem_of_getElem? (i := 102) (by decide +kernel))) rfl
theorem zw3_103 : Cond.methodLink RX9 131 yX9_bitsOfDouble ∈ zWL := zw_in (zw_3 (List.mem_of_getElem? (i := 103) (by decide +kernel))) rfl
theorem zw3_104 : Cond.static yX9_bitsOfDouble ∈ zWL := zw_in (zw_3 (List.mem_of_getElem? (i := 104) (by decide +kernel))) rfl
theorem zw3_105 : Cond.code yX9_bitsOfDouble cX9_bitsOfDouble 6 (some .long) ∈ zWL := zw_in (zw_3 (List.mem_of_getElem? (i := 105) (by decide +kernel))) rfl
theorem zw3_106 : Cond.constantDouble "LockerChains" 178 (4611686018427387904 : UInt64) ∈ zWL := zw_in (zw_3 (List.mem_of_getElem? (i := 106) (by decide +kernel))) rfl
theorem zw3_107 : Cond.constantDouble "LockerChains" 180 (4841369599423283200 : UInt64) ∈ zWL := zw_in (zw_3 (List.mem_of_getElem? (i := 107) (by decide +kernel))) rfl
theorem zw3_112 : Cond.methodLink RX9 135 yX1_overdueDays ∈ zWL := zw_in (zw_3 (List.mem_of_getElem? (i := 112) (by decide +kernel))) rfl
theorem zw3_113 : Cond.instanceMethod yX1_overdueDays ∈ zWL := zw_in (zw_3 (List.mem_of_getElem? (i := 113) (by decide +kernel))) rfl
theorem zw3_114 : Cond.selects RX1 yX1_overdueDays yX1_overdueDays ∈ zWL := zw_in (zw_3 (List.mem_of_getElem? (i := 114) (by decide +kernel))) rfl
theorem zw3_115 : Cond.code yX1_overdueDays cX1_overdueDays 3 (some .int) ∈ zWL := zw_in (zw_3 (List.mem_of_getElem? (i := 115) (by decide +kernel))) rfl
theorem zw3_116 : Cond.methodLink RX9 138 yX9_bitsOfFloat ∈ zWL := zw_in (zw_3 (List.mem_of_getElem? (i := 116) (by decide +kernel))) rfl
theorem zw3_117 : Cond.static yX9_bitsOfFloat ∈ zWL := zw_in (zw_3 (List.mem_of_getElem? (i := 117) (by decide +kernel))) rfl
theorem zw3_118 : Cond.code yX9_bitsOfFloat cX9_bitsOfFloat 4 (some .int) ∈ zWL := zw_in (zw_3 (List.mem_of_getElem? (i := 118) (by decide +kernel))) rfl
theorem zw3_119 : Cond.constantFloat "LockerChains" 182 (1258291200 : UInt32) ∈ zWL := zw_in (zw_3 (List.mem_of_getElem? (i := 119) (by decide +kernel))) rfl
theorem zw5_103 : Cond.constantLong RX10 205 (-4 : Int64) ∈ zWL := zw_in (zw_5 (List.mem_of_getElem? (i := 103) (by decide +kernel))) rfl
theorem zw5_104 : Cond.methodLink RX10 207 yJxe99ae_doubleToLongBits_ccdee ∈ zWL := zw_in (zw_5 (List.mem_of_getElem? (i := 104) (by decide +kernel))) rfl
theorem zw5_105 : Cond.static yJxe99ae_doubleToLongBits_ccdee ∈ zWL := zw_in (zw_5 (List.mem_of_getElem? (i := 105) (by decide +kernel))) rfl
theorem zw5_106 : Cond.code yJxe99ae_doubleToLongBits_ccdee cJxe99ae_doubleToLongBits_ccdee 2 (some .long) ∈ zWL := zw_in (zw_5 (List.mem_of_getElem? (i := 106) (by decide +kernel))) rfl
theorem zw5_107 : Cond.methodLink RJxe99ae 122 yJxe99ae_isNaN_b9ae7 ∈ zWL := zw_in (zw_5 (List.mem_of_getElem? (i := 107) (by decide +kernel))) rfl
theorem zw5_108 : Cond.static yJxe99ae_isNaN_b9ae7 ∈ zWL := zw_in (zw_5 (List.mem_of_getElem? (i := 108) (by decide +kernel))) rfl
theorem zw5_109 : Cond.code yJxe99ae_isNaN_b9ae7 cJxe99ae_isNaN_b9ae7 2 (some .boolean) ∈ zWL := zw_in (zw_5 (List.mem_of_getElem? (i := 109) (by decide +kernel))) rfl
theorem zw5_110 : Cond.methodLink "java/lang/Double" 134 ⟨"java/lang/Double", "doubleToRawLongBits", "(D)J"⟩ ∈ zWL := zw_in (zw_5 (List.mem_of_getElem? (i := 110) (by decide +kernel))) rfl
theorem zw5_111 : Cond.static ⟨"java/lang/Double", "doubleToRawLongBits", "(D)J"⟩ ∈ zWL := zw_in (zw_5 (List.mem_of_getElem? (i := 111) (by decide +kernel))) rfl
theorem zw5_112 : Cond.native ⟨"java/lang/Double", "doubleToRawLongBits", "(D)J"⟩ ∈ zWL := zw_in (zw_5 (List.mem_of_getElem? (i := 112) (by decide +kernel))) rfl
theorem zw5_113 : Cond.constantLong RJxe99ae 137 (9221120237041090560 : Int64) ∈ zWL := zw_in (zw_5 (List.mem_of_getElem? (i := 113) (by decide +kernel))) rfl
theorem zw5_118 : Cond.methodLink RX10 213 yJxf58ca_floatToIntBits_5c35a ∈ zWL := zw_in (zw_5 (List.mem_of_getElem? (i := 118) (by decide +kernel))) rfl
theorem zw5_119 : Cond.static yJxf58ca_floatToIntBits_5c35a ∈ zWL := zw_in (zw_5 (List.mem_of_getElem? (i := 119) (by decide +kernel))) rfl
theorem zw5_120 : Cond.code yJxf58ca_floatToIntBits_5c35a cJxf58ca_floatToIntBits_5c35a 1 (some .int) ∈ zWL := zw_in (zw_5 (List.mem_of_getElem? (i := 120) (by decide +kernel))) rfl
theorem zw5_121 : Cond.methodLink RJxf58ca 59 yJxf58ca_isNaN_12338 ∈ zWL := zw_in (zw_5 (List.mem_of_getElem? (i := 121) (by decide +kernel))) rfl
theorem zw5_122 : Cond.static yJxf58ca_isNaN_12338 ∈ zWL := zw_in (zw_5 (List.mem_of_getElem? (i := 122) (by decide +kernel))) rfl
theorem zw5_123 : Cond.code yJxf58ca_isNaN_12338 cJxf58ca_isNaN_12338 1 (some .boolean) ∈ zWL := zw_in (zw_5 (List.mem_of_getElem? (i := 123) (by decide +kernel))) rfl
theorem zw5_124 : Cond.methodLink "java/lang/Float" 74 ⟨"java/lang/Float", "floatToRawIntBits", "(F)I"⟩ ∈ zWL := zw_in (zw_5 (List.mem_of_getElem? (i := 124) (by decide +kernel))) rfl
theorem zw5_125 : Cond.static ⟨"java/lang/Float", "floatToRawIntBits", "(F)I"⟩ ∈ zWL := zw_in (zw_5 (List.mem_of_getElem? (i := 125) (by decide +kernel))) rfl
theorem zw5_126 : Cond.native ⟨"java/lang/Float", "floatToRawIntBits", "(F)I"⟩ ∈ zWL := zw_in (zw_5 (List.mem_of_getElem? (i := 126) (by decide +kernel))) rfl
theorem zw5_127 : Cond.constant "java/lang/Float" 77 (2143289344 : Int32) ∈ zWL := zw_in (zw_5 (List.mem_of_getElem? (i := 127) (by decide +kernel))) rfl
theorem zy_Jxe99ae_doubleToLongBits_ccdee : yJxe99ae_doubleToLongBits_ccdee.cls ≠ "java/lang/invoke/MethodHandle" ∧ yJxe99ae_doubleToLongBits_ccdee.cls ≠ "java/lang/invoke/VarHandle" ∧ (parseMethodDescriptor yJxe99ae_doubleToLongBits_ccdee.desc).map (fun d => d.parameters.length) = some 1 := by decide +kernel
theorem zg_Jxe99ae_doubleToLongBits_ccdee {own : String} {idx : Nat} (h : Cond.methodLink own idx yJxe99ae_doubleToLongBits_ccdee ∈ zWL) : GoodIn zWL (va_wsS own idx yJxe99ae_doubleToLongBits_ccdee (.code yJxe99ae_doubleToLongBits_ccdee cJxe99ae_doubleToLongBits_ccdee 2 (some .long) :: zWL)) := zw_gs h zw5_105 zw1_11 zw5_106
theorem zy_Jxe99ae_isNaN_b9ae7 : yJxe99ae_isNaN_b9ae7.cls ≠ "java/lang/invoke/MethodHandle" ∧ yJxe99ae_isNaN_b9ae7.cls ≠ "java/lang/invoke/VarHandle" ∧ (parseMethodDescriptor yJxe99ae_isNaN_b9ae7.desc).map (fun d => d.parameters.length) = some 1 := by decide +kernel
theorem zg_Jxe99ae_isNaN_b9ae7 {own : String} {idx : Nat} (h : Cond.methodLink own idx yJxe99ae_isNaN_b9ae7 ∈ zWL) : GoodIn zWL (va_wsS own idx yJxe99ae_isNaN_b9ae7 (.code yJxe99ae_isNaN_b9ae7 cJxe99ae_isNaN_b9ae7 2 (some .boolean) :: zWL)) := zw_gs h zw5_108 zw1_11 zw5_109
theorem zy_Jxf58ca_floatToIntBits_5c35a : yJxf58ca_floatToIntBits_5c35a.cls ≠ "java/lang/invoke/MethodHandle" ∧ yJxf58ca_floatToIntBits_5c35a.cls ≠ "java/lang/invoke/VarHandle" ∧ (parseMethodDescriptor yJxf58ca_floatToIntBits_5c35a.desc).map (fun d => d.parameters.length) = some 1 := by decide +kernel
theorem zg_Jxf58ca_floatToIntBits_5c35a {own : String} {idx : Nat} (h : Cond.methodLink own idx yJxf58ca_floatToIntBits_5c35a ∈ zWL) : GoodIn zWL (va_wsS own idx yJxf58ca_floatToIntBits_5c35a (.code yJxf58ca_floatToIntBits_5c35a cJxf58ca_floatToIntBits_5c35a 1 (some .int) :: zWL)) := zw_gs h zw5_119 zw1_12 zw5_120
theorem zy_Jxf58ca_isNaN_12338 : yJxf58ca_isNaN_12338.cls ≠ "java/lang/invoke/MethodHandle" ∧ yJxf58ca_isNaN_12338.cls ≠ "java/lang/invoke/VarHandle" ∧ (parseMethodDescriptor yJxf58ca_isNaN_12338.desc).map (fun d => d.parameters.length) = some 1 := by decide +kernel
theorem zg_Jxf58ca_isNaN_12338 {own : String} {idx : Nat} (h : Cond.methodLink own idx yJxf58ca_isNaN_12338 ∈ zWL) : GoodIn zWL (va_wsS own idx yJxf58ca_isNaN_12338 (.code yJxf58ca_isNaN_12338 cJxf58ca_isNaN_12338 1 (some .boolean) :: zWL)) := zw_gs h zw5_122 zw1_12 zw5_123
theorem zv_X1_overdueDays : yX1_overdueDays.cls = RX1 ∧ yX1_overdueDays.cls ≠ "java/lang/invoke/MethodHandle" ∧ yX1_overdueDays.cls ≠ "java/lang/invoke/VarHandle" ∧ (parseMethodDescriptor yX1_overdueDays.desc).map (fun d => d.parameters.length) = some 0 := by decide +kernel
theorem zg_X1_overdueDays {own : String} {idx : Nat} (h : Cond.methodLink own idx yX1_overdueDays ∈ zWL) : GoodIn zWL (wsV own idx RX1 yX1_overdueDays (.code yX1_overdueDays cX1_overdueDays 3 (some .int) :: zWL)) := zw_gv h zw3_113 zw3_114 zw1_2 zw3_115
theorem zy_X9_bitsOfDouble : yX9_bitsOfDouble.cls ≠ "java/lang/invoke/MethodHandle" ∧ yX9_bitsOfDouble.cls ≠ "java/lang/invoke/VarHandle" ∧ (parseMethodDescriptor yX9_bitsOfDouble.desc).map (fun d => d.parameters.length) = some 1 := by decide +kernel
theorem zg_X9_bitsOfDouble {own : String} {idx : Nat} (h : Cond.methodLink own idx yX9_bitsOfDouble ∈ zWL) : GoodIn zWL (va_wsS own idx yX9_bitsOfDouble (.code yX9_bitsOfDouble cX9_bitsOfDouble 6 (some .long) :: zWL)) := zw_gs h zw3_104 zw1_1 zw3_105
theorem zy_X9_bitsOfFloat : yX9_bitsOfFloat.cls ≠ "java/lang/invoke/MethodHandle" ∧ yX9_bitsOfFloat.cls ≠ "java/lang/invoke/VarHandle" ∧ (parseMethodDescriptor yX9_bitsOfFloat.desc).map (fun d => d.parameters.length) = some 1 := by decide +kernel
theorem zg_X9_bitsOfFloat {own : String} {idx : Nat} (h : Cond.methodLink own idx yX9_bitsOfFloat ∈ zWL) : GoodIn zWL (va_wsS own idx yX9_bitsOfFloat (.code yX9_bitsOfFloat cX9_bitsOfFloat 4 (some .int) :: zWL)) := zw_gs h zw3_117 zw1_1 zw3_118
def nn64 (r : UInt64) : Bool := decide (r &&& 0x7fffffffffffffff ≤ 0x7ff0000000000000)
theorem nn64_n {r : UInt64} (h : nn64 r = true) : vf_n64 r := by
  unfold nn64 at h
  exact of_decide_eq_true (p := r &&& 0x7fffffffffffffff ≤ 0x7ff0000000000000) h
def nn32 (r : UInt32) : Bool := decide (r &&& 0x7fffffff ≤ 0x7f800000)
theorem nn32_n {r : UInt32} (h : nn32 r = true) : vf_n32 r := by
  unfold nn32 at h
  exact of_decide_eq_true (p := r &&& 0x7fffffff ≤ 0x7f800000) h
def xX9_bitsOfDouble_L81 (p1 : UInt64) (V : zV3) (a2 : UInt64) (a4 : Int32) : Option (Int64 × zV3) :=
  grd (nn64 (FP.dsub a2 FP.dconst1)) <| grd (nn64 (FP.dmul (FP.dsub a2 FP.dconst1) (4841369599423283200 : UInt64))) <| some (((a4.toInt64 <<< ((52 : Int32).toInt64 &&& 63)) ||| (FP.d2l (FP.dmul (FP.dsub a2 FP.dconst1) (4841369599423283200 : UInt64)))), V)
def xX9_bitsOfDouble_L50 (p1 : UInt64) : Nat → zV3 → UInt64 → Int32 → Int32 → Option (Int64 × zV3)
  | 0, _, _, _, _ => none
  | n + 1, V, a2, a4, a5 => (if (1023 : Int32) ≤ a5 then xX9_bitsOfDouble_L81 p1 V a2 a4 else (if (Op.cmpValue (FP.dcmp a2 (4611686018427387904 : UInt64)) .l) < 0 then xX9_bitsOfDouble_L81 p1 V a2 a4 else grd (nn64 (FP.ddiv a2 (4611686018427387904 : UInt64))) <| ltI (FP.ddiv a2 (4611686018427387904 : UInt64)) fun y4 => ltI (a4 + (1 : Int32)) fun y5 => ltI (a5 + (1 : Int32)) fun y6 => xX9_bitsOfDouble_L50 p1 n V y4 y5 y6))
def xX9_bitsOfDouble_L18 (p1 : UInt64) : Nat → zV3 → UInt64 → Int32 → Int32 → Option (Int64 × zV3)
  | 0, _, _, _, _ => none
  | n + 1, V, a2, a4, a5 => (if (1023 : Int32) ≤ a5 then xX9_bitsOfDouble_L50 p1 1000 V a2 a4 (0 : Int32) else (if 0 ≤ (Op.cmpValue (FP.dcmp a2 FP.dconst1) .g) then xX9_bitsOfDouble_L50 p1 1000 V a2 a4 (0 : Int32) else grd (nn64 (FP.dmul a2 (4611686018427387904 : UInt64))) <| ltI (FP.dmul a2 (4611686018427387904 : UInt64)) fun y4 => ltI (a4 + (-1 : Int32)) fun y5 => ltI (a5 + (1 : Int32)) fun y6 => xX9_bitsOfDouble_L18 p1 n V y4 y5 y6))
def xX9_bitsOfDouble (V : zV3) (p1 : UInt64) : Option (Int64 × zV3) :=
  (if 0 < (Op.cmpValue (FP.dcmp p1 FP.dconst0) .l) then xX9_bitsOfDouble_L18 p1 1000 V p1 (1023 : Int32) (0 : Int32) else some ((0 : Int64), V))

def xX9_lentBits_L4 : Nat → zV3 → Int32 → Int32 → Option (Int64 × zV3)
  | 0, _, _, _ => none
  | n + 1, V, a1, a2 => (if (2 : Int32) < a2 then (if a1 = 0 then some ((-4 : Int64), V) else bndG (xX1_lentLockers (V 0)) V 0 fun r3 V6 => grd (nn64 (FP.ddiv (FP.i2d r3) (FP.i2d a1))) <| bnd (xX9_bitsOfDouble V6 (FP.ddiv (FP.i2d r3) (FP.i2d a1))) fun r8 V10 => some (r8, V10)) else bndG (xX1_standingOf (V 0) a2) V 0 fun r11 V14 => ltI (a1 + r11) fun y15 => ltI (a2 + (1 : Int32)) fun y16 => xX9_lentBits_L4 n V14 y15 y16)
def xX9_lentBits (V : zV3) : Option (Int64 × zV3) :=
  xX9_lentBits_L4 1000 V (0 : Int32) (0 : Int32)

def xX9_bitsOfFloat_L67 (p1 : UInt32) (V : zV3) (a1 : UInt32) (a2 : Int32) : Option (Int32 × zV3) :=
  grd (nn32 (FP.fsub a1 FP.fconst1)) <| grd (nn32 (FP.fmul (FP.fsub a1 FP.fconst1) (1258291200 : UInt32))) <| some (((a2 <<< ((23 : Int32) &&& 31)) ||| (FP.f2i (FP.fmul (FP.fsub a1 FP.fconst1) (1258291200 : UInt32)))), V)
def xX9_bitsOfFloat_L42 (p1 : UInt32) : Nat → zV3 → UInt32 → Int32 → Int32 → Option (Int32 × zV3)
  | 0, _, _, _, _ => none
  | n + 1, V, a1, a2, a3 => (if (127 : Int32) ≤ a3 then xX9_bitsOfFloat_L67 p1 V a1 a2 else (if (Op.cmpValue (FP.fcmp a1 FP.fconst2) .l) < 0 then xX9_bitsOfFloat_L67 p1 V a1 a2 else grd (nn32 (FP.fdiv a1 FP.fconst2)) <| ltI (FP.fdiv a1 FP.fconst2) fun y4 => ltI (a2 + (1 : Int32)) fun y5 => ltI (a3 + (1 : Int32)) fun y6 => xX9_bitsOfFloat_L42 p1 n V y4 y5 y6))
def xX9_bitsOfFloat_L15 (p1 : UInt32) : Nat → zV3 → UInt32 → Int32 → Int32 → Option (Int32 × zV3)
  | 0, _, _, _, _ => none
  | n + 1, V, a1, a2, a3 => (if (127 : Int32) ≤ a3 then xX9_bitsOfFloat_L42 p1 1000 V a1 a2 (0 : Int32) else (if 0 ≤ (Op.cmpValue (FP.fcmp a1 FP.fconst1) .g) then xX9_bitsOfFloat_L42 p1 1000 V a1 a2 (0 : Int32) else grd (nn32 (FP.fmul a1 FP.fconst2)) <| ltI (FP.fmul a1 FP.fconst2) fun y4 => ltI (a2 + (-1 : Int32)) fun y5 => ltI (a3 + (1 : Int32)) fun y6 => xX9_bitsOfFloat_L15 p1 n V y4 y5 y6))
def xX9_bitsOfFloat (V : zV3) (p1 : UInt32) : Option (Int32 × zV3) :=
  (if 0 < (Op.cmpValue (FP.fcmp p1 FP.fconst0) .l) then xX9_bitsOfFloat_L15 p1 1000 V p1 (127 : Int32) (0 : Int32) else some ((0 : Int32), V))

def xX9_overdueBits (V : zV3) : Option (Int32 × zV3) :=
  bndG (xX1_lentLockers (V 0)) V 0 fun r1 V4 => (if r1 = 0 then some ((-4 : Int32), V4) else bndG (xX1_overdueDays (V4 0)) V4 0 fun r6 V9 => grd (nn32 (FP.fdiv (FP.i2f r6) (FP.i2f r1))) <| bnd (xX9_bitsOfFloat V9 (FP.fdiv (FP.i2f r6) (FP.i2f r1))) fun r11 V13 => some (r11, V13))

def xJxe99ae_isNaN_b9ae7 (h : zV2) (p1 : UInt64) : Option (Int32 × zV2) :=
  (if (Op.cmpValue (FP.dcmp p1 p1) .l) = 0 then some ((0 : Int32), h) else some ((1 : Int32), h))

def xJxe99ae_doubleToLongBits_ccdee (h : zV2) (p1 : UInt64) : Option (Int64 × zV2) :=
  bnd (xJxe99ae_isNaN_b9ae7 h p1) fun r1 h3 => (if r1 = 0 then some (p1.toInt64, h3) else some ((9221120237041090560 : Int64), h3))

def xX10_lentBits (h : zV2) : Option (Int64 × zV2) :=
  bnd (xX10_lockersThat h (3 : Int32)) fun r1 h3 => (if r1 = 0 then some ((-4 : Int64), h3) else bnd (xX10_lockersThat h3 (1 : Int32)) fun r5 h7 => grd (nn64 (FP.ddiv (FP.i2d r5) (FP.i2d r1))) <| bnd (xJxe99ae_doubleToLongBits_ccdee h7 (FP.ddiv (FP.i2d r5) (FP.i2d r1))) fun r9 h11 => some (r9, h11))

def xJxf58ca_isNaN_12338 (h : zV2) (p1 : UInt32) : Option (Int32 × zV2) :=
  (if (Op.cmpValue (FP.fcmp p1 p1) .l) = 0 then some ((0 : Int32), h) else some ((1 : Int32), h))

def xJxf58ca_floatToIntBits_5c35a (h : zV2) (p1 : UInt32) : Option (Int32 × zV2) :=
  bnd (xJxf58ca_isNaN_12338 h p1) fun r1 h3 => (if r1 = 0 then some (p1.toInt32, h3) else some ((2143289344 : Int32), h3))

def xX10_overdueBits_L31 (K6 : zV2 → Int32 → Int32 → Int32 → Option (Int32 × zV2)) (h : zV2) (a2 : Int32) (a3 : Int32) (s0 : Int32) (s1 : Int32) : Option (Int32 × zV2) :=
  ltI (s1 + s0) fun y1 => bnd (xX10_ofP h a3 (0 : Int32)) fun r2 h4 => (if r2 < 0 then ltI (a2 + (0 : Int32)) fun y6 => ltI (a3 + (1 : Int32)) fun y7 => K6 h4 y1 y6 y7 else bnd (xX10_overdue h4 a3) fun r8 h10 => ltI (a2 + r8) fun y11 => ltI (a3 + (1 : Int32)) fun y12 => K6 h10 y1 y11 y12)
def xX10_overdueBits_L6 : Nat → zV2 → Int32 → Int32 → Int32 → Option (Int32 × zV2)
  | 0, _, _, _, _ => none
  | n + 1, h, a1, a2, a3 => grd (inb (5 : Int32) 193) <| (if (h 0 ((5 : Int32).toNatClampNeg)) ≤ a3 then (if a1 = 0 then some ((-4 : Int32), h) else grd (nn32 (FP.fdiv (FP.i2f a2) (FP.i2f a1))) <| bnd (xJxf58ca_floatToIntBits_5c35a h (FP.fdiv (FP.i2f a2) (FP.i2f a1))) fun r5 h7 => some (r5, h7)) else bnd (xX10_ofP h a3 (0 : Int32)) fun r8 h10 => (if r8 < 0 then xX10_overdueBits_L31 (xX10_overdueBits_L6 n) h10 a2 a3 (0 : Int32) a1 else xX10_overdueBits_L31 (xX10_overdueBits_L6 n) h10 a2 a3 (1 : Int32) a1))
def xX10_overdueBits (h : zV2) : Option (Int32 × zV2) :=
  xX10_overdueBits_L6 1000 h (0 : Int32) (0 : Int32) (0 : Int32)
abbrev rX9_bitsOfDouble : Room := { frames := 0, cells := 0, slots := 0, locals := 0 }
set_option maxRecDepth 100000 in
set_option maxHeartbeats 4000000 in
theorem kX9_bitsOfDouble (l : Launch) (G : zG) (A : Nat → Prop) (V : zV3) (p1 : UInt64) {r : Int64} {V' : zV3} (hf : xX9_bitsOfDouble V p1 = some (r, V')) : zCt l G A yX9_bitsOfDouble cX9_bitsOfDouble 6 (some .long) rX9_bitsOfDouble [.double p1] V (some (.long r)) V' := by
  refine z_CtL (by decide) (Nat.le_of_ble_eq_true rfl) ?_
  intro p e s m args below meth c Q hx hb hml hown hL hK hM hS hQ ls hl
  replace hl : lv_has ls 6 [(0, .double p1)] := hl
  have hQf : ∀ {a : Int64} {k : zV3} {H : Heap} {locs : List Loc} {pc : Nat} {ls : Array Slot}, some (a, k) = some (r, V') → zM G k H → va_S A s.heap H locs → decode cX9_bitsOfDouble pc = .ok (.lreturn, 1) → W p l e rX9_bitsOfDouble s m args below meth c H locs 0 0 Q (F0 m pc ls [.long a]) := by
    intro a k H locs pc ls e1 hM hS hd
    cases e1
    exact hQ H locs pc ls hM hS hd
  have L81 : ∀ (V : zV3) (a2 : UInt64) (a4 : Int32), xX9_bitsOfDouble_L81 p1 V a2 a4 = some (r, V') → ∀ (H : Heap) (locs : List Loc) (ls : Array Slot), zM G V H → va_S A s.heap H locs → lv_has ls 6 [(2, .double a2), (4, .int a4)] → W p l e rX9_bitsOfDouble s m args below meth c H locs 0 0 Q (F0 m 81 ls []) := by
    intro V a2 a4 hf H locs ls hM hS hl
    unfold xX9_bitsOfDouble_L81 at hf
    refine lv_iload hx hb dX9_bitsOfDouble_81 (lv_at hl 1 rfl) ?_
    refine lv_i2l (v := a4.toInt64) hx hb dX9_bitsOfDouble_83 rfl ?_
    refine lv_bipush (v := 52) hx hb dX9_bitsOfDouble_84 (by decide) ?_
    refine lv_lshl (v := (a4.toInt64 <<< ((52 : Int32).toInt64 &&& 63))) hx hb dX9_bitsOfDouble_86 rfl ?_
    refine lv_dload_n hx hb dX9_bitsOfDouble_87 rfl (lv_at hl 0 rfl) ?_
    refine lv_dconst1 hx hb dX9_bitsOfDouble_88 ?_
    obtain ⟨hb1, hf⟩ := grd_some hf
    refine lv_dsub hx hb dX9_bitsOfDouble_89 (nn64_n hb1) ?_
    refine lv_ldc2d (v := (4841369599423283200 : UInt64)) hx hb hown (hL _ zw3_107) dX9_bitsOfDouble_90 ?_
    obtain ⟨hb2, hf⟩ := grd_some hf
    refine lv_dmul hx hb dX9_bitsOfDouble_93 (nn64_n hb2) ?_
    refine lv_d2l hx hb dX9_bitsOfDouble_94 ?_
    refine lv_lor hx hb dX9_bitsOfDouble_95 ?_
    exact hQf hf hM hS dX9_bitsOfDouble_96
  have L50 : ∀ (n : Nat) (V : zV3) (a2 : UInt64) (a4 : Int32) (a5 : Int32), xX9_bitsOfDouble_L50 p1 n V a2 a4 a5 = some (r, V') → ∀ (H : Heap) (locs : List Loc) (ls : Array Slot), zM G V H → va_S A s.heap H locs → lv_has ls 6 [(2, .double a2), (4, .int a4), (5, .int a5)] → W p l e rX9_bitsOfDouble s m args below meth c H locs 0 0 Q (F0 m 50 ls []) := by
    intro n
    induction n with
    | zero =>
      intro V a2 a4 a5 hf H locs ls hM hS hl
      rw [xX9_bitsOfDouble_L50] at hf
      cases hf
    | succ n ih =>
      intro V a2 a4 a5 hf H locs ls hM hS hl
      rw [xX9_bitsOfDouble_L50] at hf
      refine lv_iload hx hb dX9_bitsOfDouble_50 (lv_at hl 2 rfl) ?_
      refine lv_sipush (v := 1023) hx hb dX9_bitsOfDouble_52 (by decide) ?_
      refine lv_icmp_ge (tgt := 81) hx hb dX9_bitsOfDouble_55 (by decide) (fun c1 => ?_) (fun c1 => ?_)
      · replace hf := ift hf c1
        exact L81 V a2 a4 hf _ _ _ hM hS (lv_sub hl [0, 1] rfl)
      · replace hf := iff_ hf c1
        refine lv_dload_n hx hb dX9_bitsOfDouble_58 rfl (lv_at hl 0 rfl) ?_
        refine lv_ldc2d (v := (4611686018427387904 : UInt64)) hx hb hown (hL _ zw3_106) dX9_bitsOfDouble_59 ?_
        refine lv_dcmp hx hb dX9_bitsOfDouble_62 ?_
        refine lv_if_lt (tgt := 81) hx hb dX9_bitsOfDouble_63 (by decide) (fun c2 => ?_) (fun c2 => ?_)
        · replace hf := ift hf c2
          exact L81 V a2 a4 hf _ _ _ hM hS (lv_sub hl [0, 1] rfl)
        · replace hf := iff_ hf c2
          refine lv_dload_n hx hb dX9_bitsOfDouble_66 rfl (lv_at hl 0 rfl) ?_
          refine lv_ldc2d (v := (4611686018427387904 : UInt64)) hx hb hown (hL _ zw3_106) dX9_bitsOfDouble_67 ?_
          obtain ⟨hb3, hf⟩ := grd_some hf
          refine lv_ddiv hx hb dX9_bitsOfDouble_70 (nn64_n hb3) ?_
          refine lv_topd (fun y4 ey4 => ?_)
          replace hf := ltI_some hf ey4
          refine lv_dstore_n (lv' := [(2, .double y4), (4, .int a4), (5, .int a5)]) hx hb dX9_bitsOfDouble_71 rfl hl (by decide) rfl (fun ls hl => ?_)
          obtain ⟨y5, ey5⟩ : ∃ y : Int32, y = a4 + (1 : Int32) := ⟨_, rfl⟩
          replace hf := ltI_some hf ey5
          refine lv_iinc (v := y5) (lv' := [(4, .int y5), (2, .double y4), (5, .int a5)]) hx hb dX9_bitsOfDouble_72 hl (k := 1) rfl (by rw [ey5]; rfl) (by decide) rfl (fun ls hl => ?_)
          obtain ⟨y6, ey6⟩ : ∃ y : Int32, y = a5 + (1 : Int32) := ⟨_, rfl⟩
          replace hf := ltI_some hf ey6
          refine lv_iinc (v := y6) (lv' := [(5, .int y6), (4, .int y5), (2, .double y4)]) hx hb dX9_bitsOfDouble_75 hl (k := 2) rfl (by rw [ey6]; rfl) (by decide) rfl (fun ls hl => ?_)
          refine lv_goto (tgt := 50) hx hb dX9_bitsOfDouble_78 (by decide) ?_
          exact ih V y4 y5 y6 hf _ _ _ hM hS (lv_sub hl [2, 1, 0] rfl)
  have L18 : ∀ (n : Nat) (V : zV3) (a2 : UInt64) (a4 : Int32) (a5 : Int32), xX9_bitsOfDouble_L18 p1 n V a2 a4 a5 = some (r, V') → ∀ (H : Heap) (locs : List Loc) (ls : Array Slot), zM G V H → va_S A s.heap H locs → lv_has ls 6 [(2, .double a2), (4, .int a4), (5, .int a5)] → W p l e rX9_bitsOfDouble s m args below meth c H locs 0 0 Q (F0 m 18 ls []) := by
    intro n
    induction n with
    | zero =>
      intro V a2 a4 a5 hf H locs ls hM hS hl
      rw [xX9_bitsOfDouble_L18] at hf
      cases hf
    | succ n ih =>
      intro V a2 a4 a5 hf H locs ls hM hS hl
      rw [xX9_bitsOfDouble_L18] at hf
      refine lv_iload hx hb dX9_bitsOfDouble_18 (lv_at hl 2 rfl) ?_
      refine lv_sipush (v := 1023) hx hb dX9_bitsOfDouble_20 (by decide) ?_
      refine lv_icmp_ge (tgt := 47) hx hb dX9_bitsOfDouble_23 (by decide) (fun c1 => ?_) (fun c1 => ?_)
      · replace hf := ift hf c1
        refine lv_iconst (v := 0) hx hb dX9_bitsOfDouble_47 (by decide) ?_
        refine lv_istore (lv' := [(5, .int (0 : Int32)), (2, .double a2), (4, .int a4)]) hx hb dX9_bitsOfDouble_48 hl (by decide) rfl (fun ls hl => ?_)
        exact L50 1000 V a2 a4 (0 : Int32) hf _ _ _ hM hS (lv_sub hl [1, 2, 0] rfl)
      · replace hf := iff_ hf c1
        refine lv_dload_n hx hb dX9_bitsOfDouble_26 rfl (lv_at hl 0 rfl) ?_
        refine lv_dconst1 hx hb dX9_bitsOfDouble_27 ?_
        refine lv_dcmp hx hb dX9_bitsOfDouble_28 ?_
        refine lv_if_ge (tgt := 47) hx hb dX9_bitsOfDouble_29 (by decide) (fun c2 => ?_) (fun c2 => ?_)
        · replace hf := ift hf c2
          refine lv_iconst (v := 0) hx hb dX9_bitsOfDouble_47 (by decide) ?_
          refine lv_istore (lv' := [(5, .int (0 : Int32)), (2, .double a2), (4, .int a4)]) hx hb dX9_bitsOfDouble_48 hl (by decide) rfl (fun ls hl => ?_)
          exact L50 1000 V a2 a4 (0 : Int32) hf _ _ _ hM hS (lv_sub hl [1, 2, 0] rfl)
        · replace hf := iff_ hf c2
          refine lv_dload_n hx hb dX9_bitsOfDouble_32 rfl (lv_at hl 0 rfl) ?_
          refine lv_ldc2d (v := (4611686018427387904 : UInt64)) hx hb hown (hL _ zw3_106) dX9_bitsOfDouble_33 ?_
          obtain ⟨hb3, hf⟩ := grd_some hf
          refine lv_dmul hx hb dX9_bitsOfDouble_36 (nn64_n hb3) ?_
          refine lv_topd (fun y4 ey4 => ?_)
          replace hf := ltI_some hf ey4
          refine lv_dstore_n (lv' := [(2, .double y4), (4, .int a4), (5, .int a5)]) hx hb dX9_bitsOfDouble_37 rfl hl (by decide) rfl (fun ls hl => ?_)
          obtain ⟨y5, ey5⟩ : ∃ y : Int32, y = a4 + (-1 : Int32) := ⟨_, rfl⟩
          replace hf := ltI_some hf ey5
          refine lv_iinc (v := y5) (lv' := [(4, .int y5), (2, .double y4), (5, .int a5)]) hx hb dX9_bitsOfDouble_38 hl (k := 1) rfl (by rw [ey5]; rfl) (by decide) rfl (fun ls hl => ?_)
          obtain ⟨y6, ey6⟩ : ∃ y : Int32, y = a5 + (1 : Int32) := ⟨_, rfl⟩
          replace hf := ltI_some hf ey6
          refine lv_iinc (v := y6) (lv' := [(5, .int y6), (4, .int y5), (2, .double y4)]) hx hb dX9_bitsOfDouble_41 hl (k := 2) rfl (by rw [ey6]; rfl) (by decide) rfl (fun ls hl => ?_)
          refine lv_goto (tgt := 18) hx hb dX9_bitsOfDouble_44 (by decide) ?_
          exact ih V y4 y5 y6 hf _ _ _ hM hS (lv_sub hl [2, 1, 0] rfl)
  unfold xX9_bitsOfDouble at hf
  refine lv_dload_n hx hb dX9_bitsOfDouble_0 rfl (lv_at hl 0 rfl) ?_
  refine lv_dconst0 hx hb dX9_bitsOfDouble_1 ?_
  refine lv_dcmp hx hb dX9_bitsOfDouble_2 ?_
  refine lv_if_gt (tgt := 8) hx hb dX9_bitsOfDouble_3 (by decide) (fun c1 => ?_) (fun c1 => ?_)
  · replace hf := ift hf c1
    refine lv_dload_n hx hb dX9_bitsOfDouble_8 rfl (lv_at hl 0 rfl) ?_
    refine lv_dstore_n (lv' := [(2, .double p1), (0, .double p1)]) hx hb dX9_bitsOfDouble_9 rfl hl (by decide) rfl (fun ls hl => ?_)
    refine lv_sipush (v := 1023) hx hb dX9_bitsOfDouble_10 (by decide) ?_
    refine lv_istore (lv' := [(4, .int (1023 : Int32)), (2, .double p1), (0, .double p1)]) hx hb dX9_bitsOfDouble_13 hl (by decide) rfl (fun ls hl => ?_)
    refine lv_iconst (v := 0) hx hb dX9_bitsOfDouble_15 (by decide) ?_
    refine lv_istore (lv' := [(5, .int (0 : Int32)), (4, .int (1023 : Int32)), (2, .double p1), (0, .double p1)]) hx hb dX9_bitsOfDouble_16 hl (by decide) rfl (fun ls hl => ?_)
    exact L18 1000 V p1 (1023 : Int32) (0 : Int32) hf _ _ _ hM hS (lv_sub hl [2, 1, 0] rfl)
  · replace hf := iff_ hf c1
    refine lv_lconst (v := 0) hx hb dX9_bitsOfDouble_6 rfl ?_
    exact hQf hf hM hS dX9_bitsOfDouble_7

abbrev rX9_lentBits : Room := { frames := 1, cells := 0, slots := 0, locals := 25 }
set_option maxRecDepth 100000 in
set_option maxHeartbeats 4000000 in
theorem kX9_lentBits (l : Launch) (G : zG) (A : Nat → Prop) (V : zV3) {r : Int64} {V' : zV3} (hf : xX9_lentBits V  = some (r, V')) : zCt l G A yX9_lentBits cX9_lentBits 3 (some .long) rX9_lentBits [.ref (gA G 10 0 0)] V (some (.long r)) V' := by
  refine z_CtL (by decide) (Nat.le_of_ble_eq_true rfl) ?_
  intro p e s m args below meth c Q hx hb hml hown hL hK hM hS hQ ls hl
  replace hl : lv_has ls 3 [(0, .ref (gA G 10 0 0))] := hl
  have hQf : ∀ {a : Int64} {k : zV3} {H : Heap} {locs : List Loc} {pc : Nat} {ls : Array Slot}, some (a, k) = some (r, V') → zM G k H → va_S A s.heap H locs → decode cX9_lentBits pc = .ok (.lreturn, 1) → W p l e rX9_lentBits s m args below meth c H locs 0 0 Q (F0 m pc ls [.long a]) := by
    intro a k H locs pc ls e1 hM hS hd
    cases e1
    exact hQ H locs pc ls hM hS hd
  have L4 : ∀ (n : Nat) (V : zV3) (a1 : Int32) (a2 : Int32), xX9_lentBits_L4 n V a1 a2 = some (r, V') → ∀ (H : Heap) (locs : List Loc) (ls : Array Slot), zM G V H → va_S A s.heap H locs → lv_has ls 3 [(0, .ref (gA G 10 0 0)), (1, .int a1), (2, .int a2)] → W p l e rX9_lentBits s m args below meth c H locs 0 0 Q (F0 m 4 ls []) := by
    intro n
    induction n with
    | zero =>
      intro V a1 a2 hf H locs ls hM hS hl
      rw [xX9_lentBits_L4] at hf
      cases hf
    | succ n ih =>
      intro V a1 a2 hf H locs ls hM hS hl
      rw [xX9_lentBits_L4] at hf
      refine lv_iload_n hx hb dX9_lentBits_4 rfl (lv_at hl 2 rfl) ?_
      refine lv_iconst (v := 2) hx hb dX9_lentBits_5 (by decide) ?_
      refine lv_icmp_gt (tgt := 26) hx hb dX9_lentBits_6 (by decide) (fun c1 => ?_) (fun c1 => ?_)
      · replace hf := ift hf c1
        refine lv_iload_n hx hb dX9_lentBits_26 rfl (lv_at hl 1 rfl) ?_
        refine lv_if_ne (tgt := 34) hx hb dX9_lentBits_27 (by decide) (fun c2 => ?_) (fun c2 => ?_)
        · replace hf := iff_ hf c2
          refine lv_aload_n hx hb dX9_lentBits_34 rfl (lv_at hl 0 rfl) ?_
          refine z_get (own := RX9) (C := RX9) (T := TX9) (N := 4) (ci := 7) (v := .ref (gA G 0 0 0)) hx hb hL inX9 hown hK hM dm_10 (zd_10 G V) rfl 0 (by decide) (hL _ zw2_1) rfl rfl dX9_lentBits_35 ?_
          obtain ⟨r3, k5, V6, hc4, eV6, hf⟩ := bndG_some hf
          refine z_callV (As := []) (rest := []) (C := RX1) hx hb hml hown hL hK hM hS (z_ctG (kX1_lentLockers l G A V 0 (by decide) (V 0) hc4)) (zg_X1_lentLockers zw3_102) zv_X1_lentLockers ⟨rfl, rfl⟩ ⟨Nat.le_of_ble_eq_true rfl, Nat.le_of_ble_eq_true rfl⟩ (hM.recv hK (dm_0 (g := 0) (i := 0) (by decide) rfl) (zd_0 G V 0 0) rfl) rfl hl.1 rfl (Nat.le_of_ble_eq_true rfl) dX9_lentBits_38 ⟨Nat.zero_le _, Nat.zero_le _⟩ (fun H locs hM hS => ?_)
          rw [← eV6] at hM
          refine W.eq (g2 := F0 m 41 ls [.int r3]) rfl ?_
          refine lv_i2d hx hb dX9_lentBits_41 ?_
          refine lv_iload_n hx hb dX9_lentBits_42 rfl (lv_at hl 1 rfl) ?_
          refine lv_i2d hx hb dX9_lentBits_43 ?_
          obtain ⟨hb7, hf⟩ := grd_some hf
          refine lv_ddiv hx hb dX9_lentBits_44 (nn64_n hb7) ?_
          obtain ⟨r8, V10, hc9, hf⟩ := bnd_some hf
          refine z_callS (As := [.double (FP.ddiv (FP.i2d r3) (FP.i2d a1))]) (rest := []) hx hb hml hown hL hK hM hS (kX9_bitsOfDouble l G A V6 (FP.ddiv (FP.i2d r3) (FP.i2d a1)) hc9) (zg_X9_bitsOfDouble zw3_103) zy_X9_bitsOfDouble ⟨rfl, rfl⟩ ⟨Nat.le_of_ble_eq_true rfl, Nat.le_of_ble_eq_true rfl⟩ rfl hl.1 rfl (Nat.le_of_ble_eq_true rfl) dX9_lentBits_45 ⟨Nat.zero_le _, Nat.zero_le _⟩ (fun H locs hM hS => ?_)
          refine W.eq (g2 := F0 m 48 ls [.long r8]) rfl ?_
          exact hQf hf hM hS dX9_lentBits_48
        · replace hf := ift hf c2
          refine lv_ldc2 (v := (-4 : Int64)) hx hb hown (hL _ zw3_101) dX9_lentBits_30 ?_
          exact hQf hf hM hS dX9_lentBits_33
      · replace hf := iff_ hf c1
        refine lv_iload_n hx hb dX9_lentBits_9 rfl (lv_at hl 1 rfl) ?_
        refine lv_aload_n hx hb dX9_lentBits_10 rfl (lv_at hl 0 rfl) ?_
        refine z_get (own := RX9) (C := RX9) (T := TX9) (N := 4) (ci := 7) (v := .ref (gA G 0 0 0)) hx hb hL inX9 hown hK hM dm_10 (zd_10 G V) rfl 0 (by decide) (hL _ zw2_1) rfl rfl dX9_lentBits_11 ?_
        refine lv_iload_n hx hb dX9_lentBits_14 rfl (lv_at hl 2 rfl) ?_
        obtain ⟨r11, k13, V14, hc12, eV14, hf⟩ := bndG_some hf
        refine z_callV (As := [.int a2]) (rest := [.int a1]) (C := RX1) hx hb hml hown hL hK hM hS (z_ctG (kX1_standingOf l G A V 0 (by decide) (V 0) a2 hc12)) (zg_X1_standingOf zw3_100) zv_X1_standingOf ⟨rfl, rfl⟩ ⟨Nat.le_of_ble_eq_true rfl, Nat.le_of_ble_eq_true rfl⟩ (hM.recv hK (dm_0 (g := 0) (i := 0) (by decide) rfl) (zd_0 G V 0 0) rfl) rfl hl.1 rfl (Nat.le_of_ble_eq_true rfl) dX9_lentBits_15 ⟨Nat.zero_le _, Nat.zero_le _⟩ (fun H locs hM hS => ?_)
        rw [← eV14] at hM
        refine W.eq (g2 := F0 m 18 ls [.int r11, .int a1]) rfl ?_
        refine lv_iadd hx hb dX9_lentBits_18 ?_
        refine lv_topi (fun y15 ey15 => ?_)
        replace hf := ltI_some hf ey15
        refine lv_istore_n (lv' := [(1, .int y15), (0, .ref (gA G 10 0 0)), (2, .int a2)]) hx hb dX9_lentBits_19 rfl hl (by decide) rfl (fun ls hl => ?_)
        obtain ⟨y16, ey16⟩ : ∃ y : Int32, y = a2 + (1 : Int32) := ⟨_, rfl⟩
        replace hf := ltI_some hf ey16
        refine lv_iinc (v := y16) (lv' := [(2, .int y16), (1, .int y15), (0, .ref (gA G 10 0 0))]) hx hb dX9_lentBits_20 hl (k := 2) rfl (by rw [ey16]; rfl) (by decide) rfl (fun ls hl => ?_)
        refine lv_goto (tgt := 4) hx hb dX9_lentBits_23 (by decide) ?_
        exact ih V14 y15 y16 hf _ _ _ hM hS (lv_sub hl [2, 1, 0] rfl)
  unfold xX9_lentBits at hf
  refine lv_iconst (v := 0) hx hb dX9_lentBits_0 (by decide) ?_
  refine lv_istore_n (lv' := [(1, .int (0 : Int32)), (0, .ref (gA G 10 0 0))]) hx hb dX9_lentBits_1 rfl hl (by decide) rfl (fun ls hl => ?_)
  refine lv_iconst (v := 0) hx hb dX9_lentBits_2 (by decide) ?_
  refine lv_istore_n (lv' := [(2, .int (0 : Int32)), (1, .int (0 : Int32)), (0, .ref (gA G 10 0 0))]) hx hb dX9_lentBits_3 rfl hl (by decide) rfl (fun ls hl => ?_)
  exact L4 1000 V (0 : Int32) (0 : Int32) hf _ _ _ hM hS (lv_sub hl [2, 1, 0] rfl)

abbrev rX9_bitsOfFloat : Room := { frames := 0, cells := 0, slots := 0, locals := 0 }
set_option maxRecDepth 100000 in
set_option maxHeartbeats 4000000 in
theorem kX9_bitsOfFloat (l : Launch) (G : zG) (A : Nat → Prop) (V : zV3) (p1 : UInt32) {r : Int32} {V' : zV3} (hf : xX9_bitsOfFloat V p1 = some (r, V')) : zCt l G A yX9_bitsOfFloat cX9_bitsOfFloat 4 (some .int) rX9_bitsOfFloat [.float p1] V (some (.int r)) V' := by
  refine z_CtI (by decide) (Nat.le_of_ble_eq_true rfl) ?_
  intro p e s m args below meth c Q hx hb hml hown hL hK hM hS hQ ls hl
  replace hl : lv_has ls 4 [(0, .float p1)] := hl
  have hQf : ∀ {a : Int32} {k : zV3} {H : Heap} {locs : List Loc} {pc : Nat} {ls : Array Slot}, some (a, k) = some (r, V') → zM G k H → va_S A s.heap H locs → decode cX9_bitsOfFloat pc = .ok (.ireturn, 1) → W p l e rX9_bitsOfFloat s m args below meth c H locs 0 0 Q (F0 m pc ls [.int a]) := by
    intro a k H locs pc ls e1 hM hS hd
    cases e1
    exact hQ H locs pc ls hM hS hd
  have L67 : ∀ (V : zV3) (a1 : UInt32) (a2 : Int32), xX9_bitsOfFloat_L67 p1 V a1 a2 = some (r, V') → ∀ (H : Heap) (locs : List Loc) (ls : Array Slot), zM G V H → va_S A s.heap H locs → lv_has ls 4 [(1, .float a1), (2, .int a2)] → W p l e rX9_bitsOfFloat s m args below meth c H locs 0 0 Q (F0 m 67 ls []) := by
    intro V a1 a2 hf H locs ls hM hS hl
    unfold xX9_bitsOfFloat_L67 at hf
    refine lv_iload_n hx hb dX9_bitsOfFloat_67 rfl (lv_at hl 1 rfl) ?_
    refine lv_bipush (v := 23) hx hb dX9_bitsOfFloat_68 (by decide) ?_
    refine lv_ishl hx hb dX9_bitsOfFloat_70 ?_
    refine lv_fload_n hx hb dX9_bitsOfFloat_71 rfl (lv_at hl 0 rfl) ?_
    refine lv_fconst1 hx hb dX9_bitsOfFloat_72 ?_
    obtain ⟨hb1, hf⟩ := grd_some hf
    refine lv_fsub hx hb dX9_bitsOfFloat_73 (nn32_n hb1) ?_
    refine lv_ldcf (v := (1258291200 : UInt32)) hx hb hown (hL _ zw3_119) dX9_bitsOfFloat_74 ?_
    obtain ⟨hb2, hf⟩ := grd_some hf
    refine lv_fmul hx hb dX9_bitsOfFloat_76 (nn32_n hb2) ?_
    refine lv_f2i hx hb dX9_bitsOfFloat_77 ?_
    refine lv_ior hx hb dX9_bitsOfFloat_78 ?_
    exact hQf hf hM hS dX9_bitsOfFloat_79
  have L42 : ∀ (n : Nat) (V : zV3) (a1 : UInt32) (a2 : Int32) (a3 : Int32), xX9_bitsOfFloat_L42 p1 n V a1 a2 a3 = some (r, V') → ∀ (H : Heap) (locs : List Loc) (ls : Array Slot), zM G V H → va_S A s.heap H locs → lv_has ls 4 [(1, .float a1), (2, .int a2), (3, .int a3)] → W p l e rX9_bitsOfFloat s m args below meth c H locs 0 0 Q (F0 m 42 ls []) := by
    intro n
    induction n with
    | zero =>
      intro V a1 a2 a3 hf H locs ls hM hS hl
      rw [xX9_bitsOfFloat_L42] at hf
      cases hf
    | succ n ih =>
      intro V a1 a2 a3 hf H locs ls hM hS hl
      rw [xX9_bitsOfFloat_L42] at hf
      refine lv_iload_n hx hb dX9_bitsOfFloat_42 rfl (lv_at hl 2 rfl) ?_
      refine lv_bipush (v := 127) hx hb dX9_bitsOfFloat_43 (by decide) ?_
      refine lv_icmp_ge (tgt := 67) hx hb dX9_bitsOfFloat_45 (by decide) (fun c1 => ?_) (fun c1 => ?_)
      · replace hf := ift hf c1
        exact L67 V a1 a2 hf _ _ _ hM hS (lv_sub hl [0, 1] rfl)
      · replace hf := iff_ hf c1
        refine lv_fload_n hx hb dX9_bitsOfFloat_48 rfl (lv_at hl 0 rfl) ?_
        refine lv_fconst2 hx hb dX9_bitsOfFloat_49 ?_
        refine lv_fcmp hx hb dX9_bitsOfFloat_50 ?_
        refine lv_if_lt (tgt := 67) hx hb dX9_bitsOfFloat_51 (by decide) (fun c2 => ?_) (fun c2 => ?_)
        · replace hf := ift hf c2
          exact L67 V a1 a2 hf _ _ _ hM hS (lv_sub hl [0, 1] rfl)
        · replace hf := iff_ hf c2
          refine lv_fload_n hx hb dX9_bitsOfFloat_54 rfl (lv_at hl 0 rfl) ?_
          refine lv_fconst2 hx hb dX9_bitsOfFloat_55 ?_
          obtain ⟨hb3, hf⟩ := grd_some hf
          refine lv_fdiv hx hb dX9_bitsOfFloat_56 (nn32_n hb3) ?_
          refine lv_topf (fun y4 ey4 => ?_)
          replace hf := ltI_some hf ey4
          refine lv_fstore_n (lv' := [(1, .float y4), (2, .int a2), (3, .int a3)]) hx hb dX9_bitsOfFloat_57 rfl hl (by decide) rfl (fun ls hl => ?_)
          obtain ⟨y5, ey5⟩ : ∃ y : Int32, y = a2 + (1 : Int32) := ⟨_, rfl⟩
          replace hf := ltI_some hf ey5
          refine lv_iinc (v := y5) (lv' := [(2, .int y5), (1, .float y4), (3, .int a3)]) hx hb dX9_bitsOfFloat_58 hl (k := 1) rfl (by rw [ey5]; rfl) (by decide) rfl (fun ls hl => ?_)
          obtain ⟨y6, ey6⟩ : ∃ y : Int32, y = a3 + (1 : Int32) := ⟨_, rfl⟩
          replace hf := ltI_some hf ey6
          refine lv_iinc (v := y6) (lv' := [(3, .int y6), (2, .int y5), (1, .float y4)]) hx hb dX9_bitsOfFloat_61 hl (k := 2) rfl (by rw [ey6]; rfl) (by decide) rfl (fun ls hl => ?_)
          refine lv_goto (tgt := 42) hx hb dX9_bitsOfFloat_64 (by decide) ?_
          exact ih V y4 y5 y6 hf _ _ _ hM hS (lv_sub hl [2, 1, 0] rfl)
  have L15 : ∀ (n : Nat) (V : zV3) (a1 : UInt32) (a2 : Int32) (a3 : Int32), xX9_bitsOfFloat_L15 p1 n V a1 a2 a3 = some (r, V') → ∀ (H : Heap) (locs : List Loc) (ls : Array Slot), zM G V H → va_S A s.heap H locs → lv_has ls 4 [(1, .float a1), (2, .int a2), (3, .int a3)] → W p l e rX9_bitsOfFloat s m args below meth c H locs 0 0 Q (F0 m 15 ls []) := by
    intro n
    induction n with
    | zero =>
      intro V a1 a2 a3 hf H locs ls hM hS hl
      rw [xX9_bitsOfFloat_L15] at hf
      cases hf
    | succ n ih =>
      intro V a1 a2 a3 hf H locs ls hM hS hl
      rw [xX9_bitsOfFloat_L15] at hf
      refine lv_iload_n hx hb dX9_bitsOfFloat_15 rfl (lv_at hl 2 rfl) ?_
      refine lv_bipush (v := 127) hx hb dX9_bitsOfFloat_16 (by decide) ?_
      refine lv_icmp_ge (tgt := 40) hx hb dX9_bitsOfFloat_18 (by decide) (fun c1 => ?_) (fun c1 => ?_)
      · replace hf := ift hf c1
        refine lv_iconst (v := 0) hx hb dX9_bitsOfFloat_40 (by decide) ?_
        refine lv_istore_n (lv' := [(3, .int (0 : Int32)), (1, .float a1), (2, .int a2)]) hx hb dX9_bitsOfFloat_41 rfl hl (by decide) rfl (fun ls hl => ?_)
        exact L42 1000 V a1 a2 (0 : Int32) hf _ _ _ hM hS (lv_sub hl [1, 2, 0] rfl)
      · replace hf := iff_ hf c1
        refine lv_fload_n hx hb dX9_bitsOfFloat_21 rfl (lv_at hl 0 rfl) ?_
        refine lv_fconst1 hx hb dX9_bitsOfFloat_22 ?_
        refine lv_fcmp hx hb dX9_bitsOfFloat_23 ?_
        refine lv_if_ge (tgt := 40) hx hb dX9_bitsOfFloat_24 (by decide) (fun c2 => ?_) (fun c2 => ?_)
        · replace hf := ift hf c2
          refine lv_iconst (v := 0) hx hb dX9_bitsOfFloat_40 (by decide) ?_
          refine lv_istore_n (lv' := [(3, .int (0 : Int32)), (1, .float a1), (2, .int a2)]) hx hb dX9_bitsOfFloat_41 rfl hl (by decide) rfl (fun ls hl => ?_)
          exact L42 1000 V a1 a2 (0 : Int32) hf _ _ _ hM hS (lv_sub hl [1, 2, 0] rfl)
        · replace hf := iff_ hf c2
          refine lv_fload_n hx hb dX9_bitsOfFloat_27 rfl (lv_at hl 0 rfl) ?_
          refine lv_fconst2 hx hb dX9_bitsOfFloat_28 ?_
          obtain ⟨hb3, hf⟩ := grd_some hf
          refine lv_fmul hx hb dX9_bitsOfFloat_29 (nn32_n hb3) ?_
          refine lv_topf (fun y4 ey4 => ?_)
          replace hf := ltI_some hf ey4
          refine lv_fstore_n (lv' := [(1, .float y4), (2, .int a2), (3, .int a3)]) hx hb dX9_bitsOfFloat_30 rfl hl (by decide) rfl (fun ls hl => ?_)
          obtain ⟨y5, ey5⟩ : ∃ y : Int32, y = a2 + (-1 : Int32) := ⟨_, rfl⟩
          replace hf := ltI_some hf ey5
          refine lv_iinc (v := y5) (lv' := [(2, .int y5), (1, .float y4), (3, .int a3)]) hx hb dX9_bitsOfFloat_31 hl (k := 1) rfl (by rw [ey5]; rfl) (by decide) rfl (fun ls hl => ?_)
          obtain ⟨y6, ey6⟩ : ∃ y : Int32, y = a3 + (1 : Int32) := ⟨_, rfl⟩
          replace hf := ltI_some hf ey6
          refine lv_iinc (v := y6) (lv' := [(3, .int y6), (2, .int y5), (1, .float y4)]) hx hb dX9_bitsOfFloat_34 hl (k := 2) rfl (by rw [ey6]; rfl) (by decide) rfl (fun ls hl => ?_)
          refine lv_goto (tgt := 15) hx hb dX9_bitsOfFloat_37 (by decide) ?_
          exact ih V y4 y5 y6 hf _ _ _ hM hS (lv_sub hl [2, 1, 0] rfl)
  unfold xX9_bitsOfFloat at hf
  refine lv_fload_n hx hb dX9_bitsOfFloat_0 rfl (lv_at hl 0 rfl) ?_
  refine lv_fconst0 hx hb dX9_bitsOfFloat_1 ?_
  refine lv_fcmp hx hb dX9_bitsOfFloat_2 ?_
  refine lv_if_gt (tgt := 8) hx hb dX9_bitsOfFloat_3 (by decide) (fun c1 => ?_) (fun c1 => ?_)
  · replace hf := ift hf c1
    refine lv_fload_n hx hb dX9_bitsOfFloat_8 rfl (lv_at hl 0 rfl) ?_
    refine lv_fstore_n (lv' := [(1, .float p1), (0, .float p1)]) hx hb dX9_bitsOfFloat_9 rfl hl (by decide) rfl (fun ls hl => ?_)
    refine lv_bipush (v := 127) hx hb dX9_bitsOfFloat_10 (by decide) ?_
    refine lv_istore_n (lv' := [(2, .int (127 : Int32)), (1, .float p1), (0, .float p1)]) hx hb dX9_bitsOfFloat_12 rfl hl (by decide) rfl (fun ls hl => ?_)
    refine lv_iconst (v := 0) hx hb dX9_bitsOfFloat_13 (by decide) ?_
    refine lv_istore_n (lv' := [(3, .int (0 : Int32)), (2, .int (127 : Int32)), (1, .float p1), (0, .float p1)]) hx hb dX9_bitsOfFloat_14 rfl hl (by decide) rfl (fun ls hl => ?_)
    exact L15 1000 V p1 (127 : Int32) (0 : Int32) hf _ _ _ hM hS (lv_sub hl [2, 1, 0] rfl)
  · replace hf := iff_ hf c1
    refine lv_iconst (v := 0) hx hb dX9_bitsOfFloat_6 (by decide) ?_
    exact hQf hf hM hS dX9_bitsOfFloat_7

abbrev rX9_overdueBits : Room := { frames := 2, cells := 0, slots := 0, locals := 43 }
set_option maxRecDepth 100000 in
set_option maxHeartbeats 4000000 in
theorem kX9_overdueBits (l : Launch) (G : zG) (A : Nat → Prop) (V : zV3) {r : Int32} {V' : zV3} (hf : xX9_overdueBits V  = some (r, V')) : zCt l G A yX9_overdueBits cX9_overdueBits 2 (some .int) rX9_overdueBits [.ref (gA G 10 0 0)] V (some (.int r)) V' := by
  refine z_CtI (by decide) (Nat.le_of_ble_eq_true rfl) ?_
  intro p e s m args below meth c Q hx hb hml hown hL hK hM hS hQ ls hl
  replace hl : lv_has ls 2 [(0, .ref (gA G 10 0 0))] := hl
  have hQf : ∀ {a : Int32} {k : zV3} {H : Heap} {locs : List Loc} {pc : Nat} {ls : Array Slot}, some (a, k) = some (r, V') → zM G k H → va_S A s.heap H locs → decode cX9_overdueBits pc = .ok (.ireturn, 1) → W p l e rX9_overdueBits s m args below meth c H locs 0 0 Q (F0 m pc ls [.int a]) := by
    intro a k H locs pc ls e1 hM hS hd
    cases e1
    exact hQ H locs pc ls hM hS hd
  unfold xX9_overdueBits at hf
  refine lv_aload_n hx hb dX9_overdueBits_0 rfl (lv_at hl 0 rfl) ?_
  refine z_get (own := RX9) (C := RX9) (T := TX9) (N := 4) (ci := 7) (v := .ref (gA G 0 0 0)) hx hb hL inX9 hown hK hM dm_10 (zd_10 G V) rfl 0 (by decide) (hL _ zw2_1) rfl rfl dX9_overdueBits_1 ?_
  obtain ⟨r1, k3, V4, hc2, eV4, hf⟩ := bndG_some hf
  refine z_callV (As := []) (rest := []) (C := RX1) hx hb hml hown hL hK hM hS (z_ctG (kX1_lentLockers l G A V 0 (by decide) (V 0) hc2)) (zg_X1_lentLockers zw3_102) zv_X1_lentLockers ⟨rfl, rfl⟩ ⟨Nat.le_of_ble_eq_true rfl, Nat.le_of_ble_eq_true rfl⟩ (hM.recv hK (dm_0 (g := 0) (i := 0) (by decide) rfl) (zd_0 G V 0 0) rfl) rfl hl.1 rfl (Nat.le_of_ble_eq_true rfl) dX9_overdueBits_4 ⟨Nat.zero_le _, Nat.zero_le _⟩ (fun H locs hM hS => ?_)
  rw [← eV4] at hM
  refine W.eq (g2 := F0 m 7 ls [.int r1]) rfl ?_
  refine lv_istore_n (lv' := [(1, .int r1), (0, .ref (gA G 10 0 0))]) hx hb dX9_overdueBits_7 rfl hl (by decide) rfl (fun ls hl => ?_)
  refine lv_iload_n hx hb dX9_overdueBits_8 rfl (lv_at hl 0 rfl) ?_
  refine lv_if_ne (tgt := 15) hx hb dX9_overdueBits_9 (by decide) (fun c5 => ?_) (fun c5 => ?_)
  · replace hf := iff_ hf c5
    refine lv_aload_n hx hb dX9_overdueBits_15 rfl (lv_at hl 1 rfl) ?_
    refine z_get (own := RX9) (C := RX9) (T := TX9) (N := 4) (ci := 7) (v := .ref (gA G 0 0 0)) hx hb hL inX9 hown hK hM dm_10 (zd_10 G V4) rfl 0 (by decide) (hL _ zw2_1) rfl rfl dX9_overdueBits_16 ?_
    obtain ⟨r6, k8, V9, hc7, eV9, hf⟩ := bndG_some hf
    refine z_callV (As := []) (rest := []) (C := RX1) hx hb hml hown hL hK hM hS (z_ctG (kX1_overdueDays l G A V4 0 (by decide) (V4 0) hc7)) (zg_X1_overdueDays zw3_112) zv_X1_overdueDays ⟨rfl, rfl⟩ ⟨Nat.le_of_ble_eq_true rfl, Nat.le_of_ble_eq_true rfl⟩ (hM.recv hK (dm_0 (g := 0) (i := 0) (by decide) rfl) (zd_0 G V4 0 0) rfl) rfl hl.1 rfl (Nat.le_of_ble_eq_true rfl) dX9_overdueBits_19 ⟨Nat.zero_le _, Nat.zero_le _⟩ (fun H locs hM hS => ?_)
    rw [← eV9] at hM
    refine W.eq (g2 := F0 m 22 ls [.int r6]) rfl ?_
    refine lv_i2f hx hb dX9_overdueBits_22 ?_
    refine lv_iload_n hx hb dX9_overdueBits_23 rfl (lv_at hl 0 rfl) ?_
    refine lv_i2f hx hb dX9_overdueBits_24 ?_
    obtain ⟨hb10, hf⟩ := grd_some hf
    refine lv_fdiv hx hb dX9_overdueBits_25 (nn32_n hb10) ?_
    obtain ⟨r11, V13, hc12, hf⟩ := bnd_some hf
    refine z_callS (As := [.float (FP.fdiv (FP.i2f r6) (FP.i2f r1))]) (rest := []) hx hb hml hown hL hK hM hS (kX9_bitsOfFloat l G A V9 (FP.fdiv (FP.i2f r6) (FP.i2f r1)) hc12) (zg_X9_bitsOfFloat zw3_116) zy_X9_bitsOfFloat ⟨rfl, rfl⟩ ⟨Nat.le_of_ble_eq_true rfl, Nat.le_of_ble_eq_true rfl⟩ rfl hl.1 rfl (Nat.le_of_ble_eq_true rfl) dX9_overdueBits_26 ⟨Nat.zero_le _, Nat.zero_le _⟩ (fun H locs hM hS => ?_)
    refine W.eq (g2 := F0 m 29 ls [.int r11]) rfl ?_
    exact hQf hf hM hS dX9_overdueBits_29
  · replace hf := ift hf c5
    refine lv_bipush (v := -4) hx hb dX9_overdueBits_12 (by decide) ?_
    exact hQf hf hM hS dX9_overdueBits_14

abbrev rJxe99ae_isNaN_b9ae7 : Room := { frames := 0, cells := 0, slots := 0, locals := 0 }
set_option maxRecDepth 100000 in
set_option maxHeartbeats 4000000 in
theorem kJxe99ae_isNaN_b9ae7 (l : Launch) (G : zG) (A : Nat → Prop) (V : zV3) (g : Nat) (h : zV2) (p1 : UInt64) {r : Int32} {h' : zV2} (hf : xJxe99ae_isNaN_b9ae7 h p1 = some (r, h')) : zCt l G A yJxe99ae_isNaN_b9ae7 cJxe99ae_isNaN_b9ae7 2 (some .boolean) rJxe99ae_isNaN_b9ae7 [.double p1] (upG V g h) (some (.int r)) (upG V g h') := by
  refine z_CFZ (by decide +kernel) (Nat.le_of_ble_eq_true rfl) ?_
  intro p e s m args below meth c Q hx hb hml hown hL hK hM hS hQ ls hl
  replace hl : lv_has ls 2 [(0, .double p1)] := hl
  have hQf : ∀ {a : Int32} {k : zV2} {H : Heap} {locs : List Loc} {pc : Nat} {ls : Array Slot}, narrow .boolean (.int a) = .int a → some (a, k) = some (r, h') → zM G (upG V g k) H → va_S A s.heap H locs → decode cJxe99ae_isNaN_b9ae7 pc = .ok (.ireturn, 1) → W p l e rJxe99ae_isNaN_b9ae7 s m args below meth c H locs 0 0 Q (F0 m pc ls [.int a]) := by
    intro a k H locs pc ls hnr e1 hM hS hd
    cases e1
    exact hQ H locs pc ls hnr hM hS hd
  unfold xJxe99ae_isNaN_b9ae7 at hf
  refine lv_dload_n hx hb dJxe99ae_isNaN_b9ae7_0 rfl (lv_at hl 0 rfl) ?_
  refine lv_dload_n hx hb dJxe99ae_isNaN_b9ae7_1 rfl (lv_at hl 0 rfl) ?_
  refine lv_dcmp hx hb dJxe99ae_isNaN_b9ae7_2 ?_
  refine lv_if_eq (tgt := 10) hx hb dJxe99ae_isNaN_b9ae7_3 (by decide) (fun c1 => ?_) (fun c1 => ?_)
  · replace hf := ift hf c1
    refine lv_iconst (v := 0) hx hb dJxe99ae_isNaN_b9ae7_10 (by decide) ?_
    exact hQf rfl hf hM hS dJxe99ae_isNaN_b9ae7_11
  · replace hf := iff_ hf c1
    refine lv_iconst (v := 1) hx hb dJxe99ae_isNaN_b9ae7_6 (by decide) ?_
    refine lv_goto (tgt := 11) hx hb dJxe99ae_isNaN_b9ae7_7 (by decide) ?_
    exact hQf rfl hf hM hS dJxe99ae_isNaN_b9ae7_11

abbrev rJxe99ae_doubleToLongBits_ccdee : Room := { frames := 1, cells := 0, slots := 0, locals := 21 }
set_option maxRecDepth 100000 in
set_option maxHeartbeats 4000000 in
theorem kJxe99ae_doubleToLongBits_ccdee (l : Launch) (G : zG) (A : Nat → Prop) (V : zV3) (g : Nat) (h : zV2) (p1 : UInt64) {r : Int64} {h' : zV2} (hf : xJxe99ae_doubleToLongBits_ccdee h p1 = some (r, h')) : zCt l G A yJxe99ae_doubleToLongBits_ccdee cJxe99ae_doubleToLongBits_ccdee 2 (some .long) rJxe99ae_doubleToLongBits_ccdee [.double p1] (upG V g h) (some (.long r)) (upG V g h') := by
  refine z_CFL (by decide +kernel) (Nat.le_of_ble_eq_true rfl) ?_
  intro p e s m args below meth c Q hx hb hml hown hL hK hM hS hQ ls hl
  replace hl : lv_has ls 2 [(0, .double p1)] := hl
  have hQf : ∀ {a : Int64} {k : zV2} {H : Heap} {locs : List Loc} {pc : Nat} {ls : Array Slot}, some (a, k) = some (r, h') → zM G (upG V g k) H → va_S A s.heap H locs → decode cJxe99ae_doubleToLongBits_ccdee pc = .ok (.lreturn, 1) → W p l e rJxe99ae_doubleToLongBits_ccdee s m args below meth c H locs 0 0 Q (F0 m pc ls [.long a]) := by
    intro a k H locs pc ls e1 hM hS hd
    cases e1
    exact hQ H locs pc ls hM hS hd
  unfold xJxe99ae_doubleToLongBits_ccdee at hf
  refine lv_dload_n hx hb dJxe99ae_doubleToLongBits_ccdee_0 rfl (lv_at hl 0 rfl) ?_
  obtain ⟨r1, h3, hc2, hf⟩ := bnd_some hf
  refine z_callS (As := [.double p1]) (rest := []) hx hb hml hown hL hK hM hS (kJxe99ae_isNaN_b9ae7 l G A V g h p1 hc2) (zg_Jxe99ae_isNaN_b9ae7 zw5_107) zy_Jxe99ae_isNaN_b9ae7 ⟨rfl, rfl⟩ ⟨Nat.le_of_ble_eq_true rfl, Nat.le_of_ble_eq_true rfl⟩ rfl hl.1 rfl (Nat.le_of_ble_eq_true rfl) dJxe99ae_doubleToLongBits_ccdee_1 ⟨Nat.zero_le _, Nat.zero_le _⟩ (fun H locs hM hS => ?_)
  refine W.eq (g2 := F0 m 4 ls [.int r1]) rfl ?_
  refine lv_if_ne (tgt := 12) hx hb dJxe99ae_doubleToLongBits_ccdee_4 (by decide) (fun c4 => ?_) (fun c4 => ?_)
  · replace hf := iff_ hf c4
    refine lv_ldc2 (v := (9221120237041090560 : Int64)) hx hb hown (hL _ zw5_113) dJxe99ae_doubleToLongBits_ccdee_12 ?_
    exact hQf hf hM hS dJxe99ae_doubleToLongBits_ccdee_15
  · replace hf := ift hf c4
    refine lv_dload_n hx hb dJxe99ae_doubleToLongBits_ccdee_7 rfl (lv_at hl 0 rfl) ?_
    refine vn_d2l hx hb (hml.trans hl.1.symm) hown (hL _ zw5_110) (hL _ zw5_112) (hL _ zw5_111) (hL _ zw1_11) (Nat.le_of_ble_eq_true rfl) (Nat.le_of_ble_eq_true rfl) dJxe99ae_doubleToLongBits_ccdee_8 ?_
    exact hQf hf hM hS dJxe99ae_doubleToLongBits_ccdee_11

abbrev rX10_lentBits : Room := { frames := 3, cells := 0, slots := 0, locals := 67 }
set_option maxRecDepth 100000 in
set_option maxHeartbeats 4000000 in
theorem kX10_lentBits (l : Launch) (G : zG) (A : Nat → Prop) (V : zV3) (h : zV2) {r : Int64} {h' : zV2} (hf : xX10_lentBits h  = some (r, h')) : zCt l G A yX10_lentBits cX10_lentBits 2 (some .long) rX10_lentBits [.ref (gA G 16 0 0)] (upG V 8 h) (some (.long r)) (upG V 8 h') := by
  refine z_CtL (by decide) (Nat.le_of_ble_eq_true rfl) ?_
  intro p e s m args below meth c Q hx hb hml hown hL hK hM hS hQ ls hl
  replace hl : lv_has ls 2 [(0, .ref (gA G 16 0 0))] := hl
  have hQf : ∀ {a : Int64} {k : zV2} {H : Heap} {locs : List Loc} {pc : Nat} {ls : Array Slot}, some (a, k) = some (r, h') → zM G (upG V 8 k) H → va_S A s.heap H locs → decode cX10_lentBits pc = .ok (.lreturn, 1) → W p l e rX10_lentBits s m args below meth c H locs 0 0 Q (F0 m pc ls [.long a]) := by
    intro a k H locs pc ls e1 hM hS hd
    cases e1
    exact hQ H locs pc ls hM hS hd
  unfold xX10_lentBits at hf
  refine lv_aload_n hx hb dX10_lentBits_0 rfl (lv_at hl 0 rfl) ?_
  refine lv_iconst (v := 3) hx hb dX10_lentBits_1 (by decide) ?_
  obtain ⟨r1, h3, hc2, hf⟩ := bnd_some hf
  refine z_callV (As := [.int (3 : Int32)]) (rest := []) (C := RX10) hx hb hml hown hL hK hM hS (kX10_lockersThat l G A V h (3 : Int32) hc2) (zg_X10_lockersThat zw5_75) zv_X10_lockersThat ⟨rfl, rfl⟩ ⟨Nat.le_of_ble_eq_true rfl, Nat.le_of_ble_eq_true rfl⟩ (hM.recv hK dm_16 (ze_16 G V 0 0 h) rfl) rfl hl.1 rfl (Nat.le_of_ble_eq_true rfl) dX10_lentBits_2 ⟨Nat.zero_le _, Nat.zero_le _⟩ (fun H locs hM hS => ?_)
  refine W.eq (g2 := F0 m 5 ls [.int r1]) rfl ?_
  refine lv_istore_n (lv' := [(1, .int r1), (0, .ref (gA G 16 0 0))]) hx hb dX10_lentBits_5 rfl hl (by decide) rfl (fun ls hl => ?_)
  refine lv_iload_n hx hb dX10_lentBits_6 rfl (lv_at hl 0 rfl) ?_
  refine lv_if_ne (tgt := 16) hx hb dX10_lentBits_7 (by decide) (fun c4 => ?_) (fun c4 => ?_)
  · replace hf := iff_ hf c4
    refine lv_aload_n hx hb dX10_lentBits_16 rfl (lv_at hl 1 rfl) ?_
    refine lv_iconst (v := 1) hx hb dX10_lentBits_17 (by decide) ?_
    obtain ⟨r5, h7, hc6, hf⟩ := bnd_some hf
    refine z_callV (As := [.int (1 : Int32)]) (rest := []) (C := RX10) hx hb hml hown hL hK hM hS (kX10_lockersThat l G A V h3 (1 : Int32) hc6) (zg_X10_lockersThat zw5_75) zv_X10_lockersThat ⟨rfl, rfl⟩ ⟨Nat.le_of_ble_eq_true rfl, Nat.le_of_ble_eq_true rfl⟩ (hM.recv hK dm_16 (ze_16 G V 0 0 h3) rfl) rfl hl.1 rfl (Nat.le_of_ble_eq_true rfl) dX10_lentBits_18 ⟨Nat.zero_le _, Nat.zero_le _⟩ (fun H locs hM hS => ?_)
    refine W.eq (g2 := F0 m 21 ls [.int r5]) rfl ?_
    refine lv_i2d hx hb dX10_lentBits_21 ?_
    refine lv_iload_n hx hb dX10_lentBits_22 rfl (lv_at hl 0 rfl) ?_
    refine lv_i2d hx hb dX10_lentBits_23 ?_
    obtain ⟨hb8, hf⟩ := grd_some hf
    refine lv_ddiv hx hb dX10_lentBits_24 (nn64_n hb8) ?_
    obtain ⟨r9, h11, hc10, hf⟩ := bnd_some hf
    refine z_callS (As := [.double (FP.ddiv (FP.i2d r5) (FP.i2d r1))]) (rest := []) hx hb hml hown hL hK hM hS (kJxe99ae_doubleToLongBits_ccdee l G A V 8 h7 (FP.ddiv (FP.i2d r5) (FP.i2d r1)) hc10) (zg_Jxe99ae_doubleToLongBits_ccdee zw5_104) zy_Jxe99ae_doubleToLongBits_ccdee ⟨rfl, rfl⟩ ⟨Nat.le_of_ble_eq_true rfl, Nat.le_of_ble_eq_true rfl⟩ rfl hl.1 rfl (Nat.le_of_ble_eq_true rfl) dX10_lentBits_25 ⟨Nat.zero_le _, Nat.zero_le _⟩ (fun H locs hM hS => ?_)
    refine W.eq (g2 := F0 m 28 ls [.long r9]) rfl ?_
    exact hQf hf hM hS dX10_lentBits_28
  · replace hf := ift hf c4
    refine lv_ldc2 (v := (-4 : Int64)) hx hb hown (hL _ zw5_103) dX10_lentBits_10 ?_
    refine lv_goto (tgt := 28) hx hb dX10_lentBits_13 (by decide) ?_
    exact hQf hf hM hS dX10_lentBits_28

abbrev rJxf58ca_isNaN_12338 : Room := { frames := 0, cells := 0, slots := 0, locals := 0 }
set_option maxRecDepth 100000 in
set_option maxHeartbeats 4000000 in
theorem kJxf58ca_isNaN_12338 (l : Launch) (G : zG) (A : Nat → Prop) (V : zV3) (g : Nat) (h : zV2) (p1 : UInt32) {r : Int32} {h' : zV2} (hf : xJxf58ca_isNaN_12338 h p1 = some (r, h')) : zCt l G A yJxf58ca_isNaN_12338 cJxf58ca_isNaN_12338 1 (some .boolean) rJxf58ca_isNaN_12338 [.float p1] (upG V g h) (some (.int r)) (upG V g h') := by
  refine z_CFZ (by decide +kernel) (Nat.le_of_ble_eq_true rfl) ?_
  intro p e s m args below meth c Q hx hb hml hown hL hK hM hS hQ ls hl
  replace hl : lv_has ls 1 [(0, .float p1)] := hl
  have hQf : ∀ {a : Int32} {k : zV2} {H : Heap} {locs : List Loc} {pc : Nat} {ls : Array Slot}, narrow .boolean (.int a) = .int a → some (a, k) = some (r, h') → zM G (upG V g k) H → va_S A s.heap H locs → decode cJxf58ca_isNaN_12338 pc = .ok (.ireturn, 1) → W p l e rJxf58ca_isNaN_12338 s m args below meth c H locs 0 0 Q (F0 m pc ls [.int a]) := by
    intro a k H locs pc ls hnr e1 hM hS hd
    cases e1
    exact hQ H locs pc ls hnr hM hS hd
  unfold xJxf58ca_isNaN_12338 at hf
  refine lv_fload_n hx hb dJxf58ca_isNaN_12338_0 rfl (lv_at hl 0 rfl) ?_
  refine lv_fload_n hx hb dJxf58ca_isNaN_12338_1 rfl (lv_at hl 0 rfl) ?_
  refine lv_fcmp hx hb dJxf58ca_isNaN_12338_2 ?_
  refine lv_if_eq (tgt := 10) hx hb dJxf58ca_isNaN_12338_3 (by decide) (fun c1 => ?_) (fun c1 => ?_)
  · replace hf := ift hf c1
    refine lv_iconst (v := 0) hx hb dJxf58ca_isNaN_12338_10 (by decide) ?_
    exact hQf rfl hf hM hS dJxf58ca_isNaN_12338_11
  · replace hf := iff_ hf c1
    refine lv_iconst (v := 1) hx hb dJxf58ca_isNaN_12338_6 (by decide) ?_
    refine lv_goto (tgt := 11) hx hb dJxf58ca_isNaN_12338_7 (by decide) ?_
    exact hQf rfl hf hM hS dJxf58ca_isNaN_12338_11

abbrev rJxf58ca_floatToIntBits_5c35a : Room := { frames := 1, cells := 0, slots := 0, locals := 20 }
set_option maxRecDepth 100000 in
set_option maxHeartbeats 4000000 in
theorem kJxf58ca_floatToIntBits_5c35a (l : Launch) (G : zG) (A : Nat → Prop) (V : zV3) (g : Nat) (h : zV2) (p1 : UInt32) {r : Int32} {h' : zV2} (hf : xJxf58ca_floatToIntBits_5c35a h p1 = some (r, h')) : zCt l G A yJxf58ca_floatToIntBits_5c35a cJxf58ca_floatToIntBits_5c35a 1 (some .int) rJxf58ca_floatToIntBits_5c35a [.float p1] (upG V g h) (some (.int r)) (upG V g h') := by
  refine z_CFI (by decide +kernel) (Nat.le_of_ble_eq_true rfl) ?_
  intro p e s m args below meth c Q hx hb hml hown hL hK hM hS hQ ls hl
  replace hl : lv_has ls 1 [(0, .float p1)] := hl
  have hQf : ∀ {a : Int32} {k : zV2} {H : Heap} {locs : List Loc} {pc : Nat} {ls : Array Slot}, some (a, k) = some (r, h') → zM G (upG V g k) H → va_S A s.heap H locs → decode cJxf58ca_floatToIntBits_5c35a pc = .ok (.ireturn, 1) → W p l e rJxf58ca_floatToIntBits_5c35a s m args below meth c H locs 0 0 Q (F0 m pc ls [.int a]) := by
    intro a k H locs pc ls e1 hM hS hd
    cases e1
    exact hQ H locs pc ls hM hS hd
  unfold xJxf58ca_floatToIntBits_5c35a at hf
  refine lv_fload_n hx hb dJxf58ca_floatToIntBits_5c35a_0 rfl (lv_at hl 0 rfl) ?_
  obtain ⟨r1, h3, hc2, hf⟩ := bnd_some hf
  refine z_callS (As := [.float p1]) (rest := []) hx hb hml hown hL hK hM hS (kJxf58ca_isNaN_12338 l G A V g h p1 hc2) (zg_Jxf58ca_isNaN_12338 zw5_121) zy_Jxf58ca_isNaN_12338 ⟨rfl, rfl⟩ ⟨Nat.le_of_ble_eq_true rfl, Nat.le_of_ble_eq_true rfl⟩ rfl hl.1 rfl (Nat.le_of_ble_eq_true rfl) dJxf58ca_floatToIntBits_5c35a_1 ⟨Nat.zero_le _, Nat.zero_le _⟩ (fun H locs hM hS => ?_)
  refine W.eq (g2 := F0 m 4 ls [.int r1]) rfl ?_
  refine lv_if_ne (tgt := 12) hx hb dJxf58ca_floatToIntBits_5c35a_4 (by decide) (fun c4 => ?_) (fun c4 => ?_)
  · replace hf := iff_ hf c4
    refine lv_ldc (v := (2143289344 : Int32)) hx hb hown (hL _ zw5_127) dJxf58ca_floatToIntBits_5c35a_12 ?_
    exact hQf hf hM hS dJxf58ca_floatToIntBits_5c35a_14
  · replace hf := ift hf c4
    refine lv_fload_n hx hb dJxf58ca_floatToIntBits_5c35a_7 rfl (lv_at hl 0 rfl) ?_
    refine vn_f2i hx hb (hml.trans hl.1.symm) hown (hL _ zw5_124) (hL _ zw5_126) (hL _ zw5_125) (hL _ zw1_12) (Nat.le_of_ble_eq_true rfl) (Nat.le_of_ble_eq_true rfl) dJxf58ca_floatToIntBits_5c35a_8 ?_
    exact hQf hf hM hS dJxf58ca_floatToIntBits_5c35a_11

abbrev rX10_overdueBits : Room := { frames := 2, cells := 0, slots := 0, locals := 44 }
set_option maxRecDepth 100000 in
set_option maxHeartbeats 4000000 in
theorem kX10_overdueBits (l : Launch) (G : zG) (A : Nat → Prop) (V : zV3) (h : zV2) {r : Int32} {h' : zV2} (hf : xX10_overdueBits h  = some (r, h')) : zCt l G A yX10_overdueBits cX10_overdueBits 4 (some .int) rX10_overdueBits [.ref (gA G 16 0 0)] (upG V 8 h) (some (.int r)) (upG V 8 h') := by
  refine z_CtI (by decide) (Nat.le_of_ble_eq_true rfl) ?_
  intro p e s m args below meth c Q hx hb hml hown hL hK hM hS hQ ls hl
  replace hl : lv_has ls 4 [(0, .ref (gA G 16 0 0))] := hl
  have hQf : ∀ {a : Int32} {k : zV2} {H : Heap} {locs : List Loc} {pc : Nat} {ls : Array Slot}, some (a, k) = some (r, h') → zM G (upG V 8 k) H → va_S A s.heap H locs → decode cX10_overdueBits pc = .ok (.ireturn, 1) → W p l e rX10_overdueBits s m args below meth c H locs 0 0 Q (F0 m pc ls [.int a]) := by
    intro a k H locs pc ls e1 hM hS hd
    cases e1
    exact hQ H locs pc ls hM hS hd
  have L31 : ∀ (K6 : zV2 → Int32 → Int32 → Int32 → Option (Int32 × zV2)), (∀ (h : zV2) (a1 : Int32) (a2 : Int32) (a3 : Int32), K6 h a1 a2 a3 = some (r, h') → ∀ (H : Heap) (locs : List Loc) (ls : Array Slot), zM G (upG V 8 h) H → va_S A s.heap H locs → lv_has ls 4 [(0, .ref (gA G 16 0 0)), (1, .int a1), (2, .int a2), (3, .int a3)] → W p l e rX10_overdueBits s m args below meth c H locs 0 0 Q (F0 m 6 ls [])) → ∀ (h : zV2) (a2 : Int32) (a3 : Int32) (s0 : Int32) (s1 : Int32), xX10_overdueBits_L31 K6 h a2 a3 s0 s1 = some (r, h') → ∀ (H : Heap) (locs : List Loc) (ls : Array Slot), zM G (upG V 8 h) H → va_S A s.heap H locs → lv_has ls 4 [(0, .ref (gA G 16 0 0)), (2, .int a2), (3, .int a3)] → W p l e rX10_overdueBits s m args below meth c H locs 0 0 Q (F0 m 31 ls [.int s0, .int s1]) := by
    intro K6 hK6 h a2 a3 s0 s1 hf H locs ls hM hS hl
    unfold xX10_overdueBits_L31 at hf
    refine lv_iadd hx hb dX10_overdueBits_31 ?_
    refine lv_topi (fun y1 ey1 => ?_)
    replace hf := ltI_some hf ey1
    refine lv_istore_n (lv' := [(1, .int y1), (0, .ref (gA G 16 0 0)), (2, .int a2), (3, .int a3)]) hx hb dX10_overdueBits_32 rfl hl (by decide) rfl (fun ls hl => ?_)
    refine lv_iload_n hx hb dX10_overdueBits_33 rfl (lv_at hl 2 rfl) ?_
    refine lv_aload_n hx hb dX10_overdueBits_34 rfl (lv_at hl 1 rfl) ?_
    refine lv_iload_n hx hb dX10_overdueBits_35 rfl (lv_at hl 3 rfl) ?_
    refine lv_iconst (v := 0) hx hb dX10_overdueBits_36 (by decide) ?_
    obtain ⟨r2, h4, hc3, hf⟩ := bnd_some hf
    refine z_callV (As := [.int a3, .int (0 : Int32)]) (rest := [.int a2]) (C := RX10) hx hb hml hown hL hK hM hS (kX10_ofP l G A V h a3 (0 : Int32) hc3) (zg_X10_ofP zw4_147) zv_X10_ofP ⟨rfl, rfl⟩ ⟨Nat.le_of_ble_eq_true rfl, Nat.le_of_ble_eq_true rfl⟩ (hM.recv hK dm_16 (ze_16 G V 0 0 h) rfl) rfl hl.1 rfl (Nat.le_of_ble_eq_true rfl) dX10_overdueBits_37 ⟨Nat.zero_le _, Nat.zero_le _⟩ (fun H locs hM hS => ?_)
    refine W.eq (g2 := F0 m 40 ls [.int r2, .int a2]) rfl ?_
    refine lv_if_lt (tgt := 51) hx hb dX10_overdueBits_40 (by decide) (fun c5 => ?_) (fun c5 => ?_)
    · replace hf := ift hf c5
      refine lv_iconst (v := 0) hx hb dX10_overdueBits_51 (by decide) ?_
      refine lv_iadd hx hb dX10_overdueBits_52 ?_
      refine lv_topi (fun y6 ey6 => ?_)
      replace hf := ltI_some hf ey6
      refine lv_istore_n (lv' := [(2, .int y6), (1, .int y1), (0, .ref (gA G 16 0 0)), (3, .int a3)]) hx hb dX10_overdueBits_53 rfl hl (by decide) rfl (fun ls hl => ?_)
      obtain ⟨y7, ey7⟩ : ∃ y : Int32, y = a3 + (1 : Int32) := ⟨_, rfl⟩
      replace hf := ltI_some hf ey7
      refine lv_iinc (v := y7) (lv' := [(3, .int y7), (2, .int y6), (1, .int y1), (0, .ref (gA G 16 0 0))]) hx hb dX10_overdueBits_54 hl (k := 3) rfl (by rw [ey7]; rfl) (by decide) rfl (fun ls hl => ?_)
      refine lv_goto (tgt := 6) hx hb dX10_overdueBits_57 (by decide) ?_
      exact hK6 h4 y1 y6 y7 hf _ _ _ hM hS (lv_sub hl [3, 2, 1, 0] rfl)
    · replace hf := iff_ hf c5
      refine lv_aload_n hx hb dX10_overdueBits_43 rfl (lv_at hl 1 rfl) ?_
      refine lv_iload_n hx hb dX10_overdueBits_44 rfl (lv_at hl 3 rfl) ?_
      obtain ⟨r8, h10, hc9, hf⟩ := bnd_some hf
      refine z_callV (As := [.int a3]) (rest := [.int a2]) (C := RX10) hx hb hml hown hL hK hM hS (kX10_overdue l G A V h4 a3 hc9) (zg_X10_overdue zw4_171) zv_X10_overdue ⟨rfl, rfl⟩ ⟨Nat.le_of_ble_eq_true rfl, Nat.le_of_ble_eq_true rfl⟩ (hM.recv hK dm_16 (ze_16 G V 0 0 h4) rfl) rfl hl.1 rfl (Nat.le_of_ble_eq_true rfl) dX10_overdueBits_45 ⟨Nat.zero_le _, Nat.zero_le _⟩ (fun H locs hM hS => ?_)
      refine W.eq (g2 := F0 m 48 ls [.int r8, .int a2]) rfl ?_
      refine lv_goto (tgt := 52) hx hb dX10_overdueBits_48 (by decide) ?_
      refine lv_iadd hx hb dX10_overdueBits_52 ?_
      refine lv_topi (fun y11 ey11 => ?_)
      replace hf := ltI_some hf ey11
      refine lv_istore_n (lv' := [(2, .int y11), (1, .int y1), (0, .ref (gA G 16 0 0)), (3, .int a3)]) hx hb dX10_overdueBits_53 rfl hl (by decide) rfl (fun ls hl => ?_)
      obtain ⟨y12, ey12⟩ : ∃ y : Int32, y = a3 + (1 : Int32) := ⟨_, rfl⟩
      replace hf := ltI_some hf ey12
      refine lv_iinc (v := y12) (lv' := [(3, .int y12), (2, .int y11), (1, .int y1), (0, .ref (gA G 16 0 0))]) hx hb dX10_overdueBits_54 hl (k := 3) rfl (by rw [ey12]; rfl) (by decide) rfl (fun ls hl => ?_)
      refine lv_goto (tgt := 6) hx hb dX10_overdueBits_57 (by decide) ?_
      exact hK6 h10 y1 y11 y12 hf _ _ _ hM hS (lv_sub hl [3, 2, 1, 0] rfl)
  have L6 : ∀ (n : Nat) (h : zV2) (a1 : Int32) (a2 : Int32) (a3 : Int32), xX10_overdueBits_L6 n h a1 a2 a3 = some (r, h') → ∀ (H : Heap) (locs : List Loc) (ls : Array Slot), zM G (upG V 8 h) H → va_S A s.heap H locs → lv_has ls 4 [(0, .ref (gA G 16 0 0)), (1, .int a1), (2, .int a2), (3, .int a3)] → W p l e rX10_overdueBits s m args below meth c H locs 0 0 Q (F0 m 6 ls []) := by
    intro n
    induction n with
    | zero =>
      intro h a1 a2 a3 hf H locs ls hM hS hl
      rw [xX10_overdueBits_L6] at hf
      cases hf
    | succ n ih =>
      intro h a1 a2 a3 hf H locs ls hM hS hl
      rw [xX10_overdueBits_L6] at hf
      refine lv_iload_n hx hb dX10_overdueBits_6 rfl (lv_at hl 3 rfl) ?_
      refine lv_aload_n hx hb dX10_overdueBits_7 rfl (lv_at hl 0 rfl) ?_
      refine z_get (own := RX10) (C := RX10) (T := TX10) (N := 12) (ci := 8) (v := .ref (gA G 17 0 0)) hx hb hL inX10 hown hK hM dm_16 (ze_16 G V 0 0 h) rfl 0 (by decide) (hL _ zw4_19) rfl rfl dX10_overdueBits_8 ?_
      refine lv_iconst (v := 5) hx hb dX10_overdueBits_11 (by decide) ?_
      obtain ⟨hb1, hf⟩ := grd_some hf
      refine z_iald hx hb hK hM (dm_17 (i := 0) (by decide)) (ze_17_0 G V h) (inb_in hb1) dX10_overdueBits_12 ?_
      refine lv_icmp_ge (tgt := 60) hx hb dX10_overdueBits_13 (by decide) (fun c2 => ?_) (fun c2 => ?_)
      · replace hf := ift hf c2
        refine lv_iload_n hx hb dX10_overdueBits_60 rfl (lv_at hl 1 rfl) ?_
        refine lv_if_ne (tgt := 69) hx hb dX10_overdueBits_61 (by decide) (fun c3 => ?_) (fun c3 => ?_)
        · replace hf := iff_ hf c3
          refine lv_iload_n hx hb dX10_overdueBits_69 rfl (lv_at hl 2 rfl) ?_
          refine lv_i2f hx hb dX10_overdueBits_70 ?_
          refine lv_iload_n hx hb dX10_overdueBits_71 rfl (lv_at hl 1 rfl) ?_
          refine lv_i2f hx hb dX10_overdueBits_72 ?_
          obtain ⟨hb4, hf⟩ := grd_some hf
          refine lv_fdiv hx hb dX10_overdueBits_73 (nn32_n hb4) ?_
          obtain ⟨r5, h7, hc6, hf⟩ := bnd_some hf
          refine z_callS (As := [.float (FP.fdiv (FP.i2f a2) (FP.i2f a1))]) (rest := []) hx hb hml hown hL hK hM hS (kJxf58ca_floatToIntBits_5c35a l G A V 8 h (FP.fdiv (FP.i2f a2) (FP.i2f a1)) hc6) (zg_Jxf58ca_floatToIntBits_5c35a zw5_118) zy_Jxf58ca_floatToIntBits_5c35a ⟨rfl, rfl⟩ ⟨Nat.le_of_ble_eq_true rfl, Nat.le_of_ble_eq_true rfl⟩ rfl hl.1 rfl (Nat.le_of_ble_eq_true rfl) dX10_overdueBits_74 ⟨Nat.zero_le _, Nat.zero_le _⟩ (fun H locs hM hS => ?_)
          refine W.eq (g2 := F0 m 77 ls [.int r5]) rfl ?_
          exact hQf hf hM hS dX10_overdueBits_77
        · replace hf := ift hf c3
          refine lv_bipush (v := -4) hx hb dX10_overdueBits_64 (by decide) ?_
          refine lv_goto (tgt := 77) hx hb dX10_overdueBits_66 (by decide) ?_
          exact hQf hf hM hS dX10_overdueBits_77
      · replace hf := iff_ hf c2
        refine lv_iload_n hx hb dX10_overdueBits_16 rfl (lv_at hl 1 rfl) ?_
        refine lv_aload_n hx hb dX10_overdueBits_17 rfl (lv_at hl 0 rfl) ?_
        refine lv_iload_n hx hb dX10_overdueBits_18 rfl (lv_at hl 3 rfl) ?_
        refine lv_iconst (v := 0) hx hb dX10_overdueBits_19 (by decide) ?_
        obtain ⟨r8, h10, hc9, hf⟩ := bnd_some hf
        refine z_callV (As := [.int a3, .int (0 : Int32)]) (rest := [.int a1]) (C := RX10) hx hb hml hown hL hK hM hS (kX10_ofP l G A V h a3 (0 : Int32) hc9) (zg_X10_ofP zw4_147) zv_X10_ofP ⟨rfl, rfl⟩ ⟨Nat.le_of_ble_eq_true rfl, Nat.le_of_ble_eq_true rfl⟩ (hM.recv hK dm_16 (ze_16 G V 0 0 h) rfl) rfl hl.1 rfl (Nat.le_of_ble_eq_true rfl) dX10_overdueBits_20 ⟨Nat.zero_le _, Nat.zero_le _⟩ (fun H locs hM hS => ?_)
        refine W.eq (g2 := F0 m 23 ls [.int r8, .int a1]) rfl ?_
        refine lv_if_lt (tgt := 30) hx hb dX10_overdueBits_23 (by decide) (fun c11 => ?_) (fun c11 => ?_)
        · replace hf := ift hf c11
          refine lv_iconst (v := 0) hx hb dX10_overdueBits_30 (by decide) ?_
          exact L31 _ ih h10 a2 a3 (0 : Int32) a1 hf _ _ _ hM hS (lv_sub hl [0, 2, 3] rfl)
        · replace hf := iff_ hf c11
          refine lv_iconst (v := 1) hx hb dX10_overdueBits_26 (by decide) ?_
          refine lv_goto (tgt := 31) hx hb dX10_overdueBits_27 (by decide) ?_
          exact L31 _ ih h10 a2 a3 (1 : Int32) a1 hf _ _ _ hM hS (lv_sub hl [0, 2, 3] rfl)
  unfold xX10_overdueBits at hf
  refine lv_iconst (v := 0) hx hb dX10_overdueBits_0 (by decide) ?_
  refine lv_istore_n (lv' := [(1, .int (0 : Int32)), (0, .ref (gA G 16 0 0))]) hx hb dX10_overdueBits_1 rfl hl (by decide) rfl (fun ls hl => ?_)
  refine lv_iconst (v := 0) hx hb dX10_overdueBits_2 (by decide) ?_
  refine lv_istore_n (lv' := [(2, .int (0 : Int32)), (1, .int (0 : Int32)), (0, .ref (gA G 16 0 0))]) hx hb dX10_overdueBits_3 rfl hl (by decide) rfl (fun ls hl => ?_)
  refine lv_iconst (v := 0) hx hb dX10_overdueBits_4 (by decide) ?_
  refine lv_istore_n (lv' := [(3, .int (0 : Int32)), (2, .int (0 : Int32)), (1, .int (0 : Int32)), (0, .ref (gA G 16 0 0))]) hx hb dX10_overdueBits_5 rfl hl (by decide) rfl (fun ls hl => ?_)
  exact L6 1000 h (0 : Int32) (0 : Int32) (0 : Int32) hf _ _ _ hM hS (lv_sub hl [3, 2, 1, 0] rfl)
