/-! wanting still: the three last public methods -/
theorem PUB_overdueBits {V : zV3} (R : Rel V) : PUB V (xX9_overdueBits V) (xX10_overdueBits (V 8)) := by
  sorry
theorem PUB_fault {V : zV3} (p1 : Int32) (R : Rel V) : PUB V (xX9_fault V p1) (xX10_fault (V 8) p1) := by
  sorry
theorem PUB_play {V : zV3} (R : Rel V) : PUB V (xX9_play V) (xX10_play (V 8)) := by
  sorry
