/** Boundary cases of "What it is", "Lockers and rows" and promises 1 to 4, 16 and 21. */
public final class LockersEdgesTest {
    private static final Sentences s = new Sentences("LockersEdgesTest");

    public static void main(String[] args) {
        callsUpToTheLast();
        newObject();
        objectsOfTheirOwn();
        atMostTwelveLockers();
        rows();
        inNoRowAtFirst();
        free();
        spareKeyAtFirst();
        locker();
        person();
        stand();
        standCountsLentAndClosedOnes();
        lockerOf();
        lockerOfEach();
        holders();
        closedUntil();
        timesLent();
        lentBits();
        lentBitsOfEachShare();
        s.end();
    }

    private static void callsUpToTheLast() {
        s.of("What it is", "An object is used for at most 512 calls after it has been made");
        s.hall(1, 0);
        s.calls("lend(0, 0) = 0; pass(31) = 1; pay(0, 64) = 0; 252 x clearText() = 0; 252 x feeIn(0, 99) = 0");
        // The last two of 512.
        s.calls("lend(0, 0) = 0; personOf(0, 1) = 41");
    }

    private static void newObject() {
        s.of("Promise 1: A new object", "Creates a hall without lockers and people, on the day 0.");
        for (int what = 0; what <= 13; what++) {
            s.calls("count(" + what + ") = 0");
        }
        for (int what = 0; what <= 9; what++) {
            s.calls("personOf(0, " + what + ") = -1; lockerOf(0, " + what + ") = -1");
        }
        s.calls("waitingAt(0, 0) = -4; waitingAt(0, 1) = -4; lentBits() = -4; overdueBits() = -4; undo() = -2");
        s.calls("feeIn(0, 1) = -1; wouldHave(0) = -1; fault(0) = -4; fault(1) = -4; fault(2) = -4; clearText() = 0");
        s.calls("swap() = 0; play() = 0");
    }

    private static void objectsOfTheirOwn() {
        s.of("Promise 1: A new object", "Creates a hall without lockers and people, on the day 0.");
        LockerChains other = new LockerChains();
        other.locker(2);
        other.person();
        other.pass(5);
        other.set(0, 60);
        other.type(';');
        s.hall(0);
        s.calls("count(0) = 0; count(1) = 0; count(2) = 0; count(12) = 0; count(13) = 0; count(20) = 10; locker(1) = 0");
        s.calls("lockerOf(0, 0) = 1");
    }

    private static void atMostTwelveLockers() {
        s.of("Lockers and rows", "There are at most 12 lockers, numbered from 0, each of a size: 0 small, 1 middle, 2 large.");
        for (int i = 0; i < 12; i++) {
            s.calls("lockerOf(" + i + ", 0) = -1; locker(" + i % 3 + ") = " + i, "lockerOf(" + i + ", 0) = " + i % 3);
        }
        s.changesNothing("locker(0) = -3; locker(1) = -3; locker(2) = -3");
        s.calls("count(0) = 12; lockerOf(12, 0) = -1; stand(12, 0) = -1");
    }

    private static void rows() {
        s.of("Lockers and rows", "There are three rows with 4 places each; row 0 takes small ones, row 1 middle ones, row 2 "
            + "large ones.");
        for (int size = 0; size < 3; size++) {
            s.hall(0);
            s.calls("5 x locker(" + size + ")");
            for (int row = 0; row < 3; row++) {
                if (row != size) {
                    s.changesNothing("stand(0, " + row + ") = -2");
                }
            }
            for (int i = 0; i < 4; i++) {
                s.calls("stand(" + i + ", " + size + ") = " + (i + 1));
            }
            s.changesNothing("stand(4, " + size + ") = -3");
        }
        s.hall(0, 0, 0, 0, 0, 1, 1, 1, 1, 2, 2, 2, 2);
        s.calls("count(3) = 12");
    }

    private static void inNoRowAtFirst() {
        s.of("Lockers and rows", "A locker is in no row at first.");
        s.hall(1);
        s.calls("locker(0) = 0; lockerOf(0, 1) = 0; lockerOf(0, 3) = 0; count(3) = 0; lentBits() = -4; lend(0, 0) = 101");
        s.calls("lockerOf(0, 2) = -4; stand(0, 0) = 1; lockerOf(0, 1) = 1; lockerOf(0, 2) = 0");
    }

    private static void free() {
        s.of("Lockers and rows", "It is free if it is in a row, is not lent, and is not closed.");
        s.hall(1);
        s.calls("locker(0) = 0; lockerOf(0, 3) = 0; count(3) = 0");
        s.calls("stand(0, 0) = 1; lockerOf(0, 3) = 1; count(3) = 1");
        s.calls("lend(0, 0) = 0; lockerOf(0, 3) = 0; count(3) = 0");
        s.calls("giveBack(0) = 0; lockerOf(0, 3) = 1; count(3) = 1");
        s.calls("lend(0, 0) = 0; lose(0) = 5; lose(0) = 30; giveBack(0) = 0; lockerOf(0, 2) = -4; lockerOf(0, 1) = 1");
        s.calls("lockerOf(0, 3) = 0; count(3) = 0; lend(0, 3) = 101; giveBack(0) = 0; pass(2) = 0; lockerOf(0, 3) = 0");
        s.calls("pass(1) = 0; lockerOf(0, 3) = 1; count(3) = 1; lend(0, 3) = 0");
    }

    private static void spareKeyAtFirst() {
        s.of("Lockers and rows", "Each locker has a spare key at first.");
        s.hall(1);
        for (int i = 0; i < 12; i++) {
            s.calls("locker(" + i % 3 + ")", "lockerOf(" + i + ", 4) = 1");
        }
        s.calls("stand(11, 2); lend(0, 2) = 11; lose(0) = 5; lockerOf(11, 4) = 0; lockerOf(10, 4) = 1; personOf(0, 0) = 11");
    }

    private static void locker() {
        s.of("Promise 2: locker", "Returns its number; INVALID_ARGUMENT if size is out of range; LIMIT_REACHED if there are "
            + "12.");
        s.changesNothing("locker(-1) = -1; locker(3) = -1; locker(MIN) = -1; locker(MAX) = -1");
        s.changes("locker(2) = 0; locker(0) = 1");
        s.calls("9 x locker(1)");
        s.changes("locker(2) = 11");
        s.changesNothing("locker(2) = -3; locker(3) = -1; locker(-1) = -1");
        s.calls("undo() = 3; locker(0) = 11; locker(0) = -3; lockerOf(11, 0) = 0");
    }

    private static void person() {
        s.of("Promise 3: person", "Returns the number of the person; LIMIT_REACHED if there are 10.");
        for (int i = 0; i < 10; i++) {
            s.calls("personOf(" + i + ", 4) = -1");
            s.changes("person() = " + i);
            s.calls("personOf(" + i + ", 4) = 0");
        }
        s.changesNothing("person() = -3");
        s.calls("count(1) = 10; undo() = 3; person() = 9; person() = -3");
    }

    private static void stand() {
        s.of("Promise 4: stand", "Returns how many lockers are in the row then; INVALID_ARGUMENT if an argument is out of "
            + "range; NOT_POSSIBLE if it is in a row already, or the row does not take its size; LIMIT_REACHED if the row "
            + "is full.");
        s.hall(0, 0, 0, 0);
        s.calls("locker(0) = 3; locker(0) = 4; locker(1) = 5");
        s.changesNothing("stand(6, 0) = -1; stand(-1, 0) = -1; stand(MIN, 0) = -1; stand(MAX, 0) = -1; stand(12, 0) = -1");
        s.changesNothing("stand(3, -1) = -1; stand(3, 3) = -1; stand(3, MIN) = -1; stand(3, MAX) = -1");
        s.changesNothing("stand(0, 0) = -2; stand(3, 1) = -2; stand(3, 2) = -2; stand(5, 0) = -2; stand(5, 2) = -2");
        s.changesNothing("stand(0, 3) = -1; stand(6, 3) = -1");
        s.changes("stand(3, 0) = 4");
        s.changesNothing("stand(4, 0) = -3; stand(0, 0) = -2; stand(3, 0) = -2; stand(5, 0) = -2; stand(4, 1) = -2");
        s.changesNothing("stand(4, 3) = -1; stand(6, 0) = -1");
        s.changes("stand(5, 1) = 1");
    }

    private static void standCountsLentAndClosedOnes() {
        s.of("Promise 4: stand", "Returns how many lockers are in the row then");
        s.hall(2, 0, 0);
        s.calls("lend(0, 0) = 0; lend(1, 0) = 1; lose(1) = 5; lose(1) = 30; count(4) = 1; count(5) = 1; locker(0) = 2");
        s.changesNothing("stand(0, 0) = -2; stand(1, 0) = -2");
        s.calls("stand(2, 0) = 3; personOf(1, 0) = 2; locker(0) = 3; stand(3, 0) = 4; locker(0) = 4; stand(4, 0) = -3");
    }

    private static void lockerOf() {
        s.of("Promise 16: lockerOf", "Returns the number; INVALID_ARGUMENT if an argument is out of range; NOT_FOUND for 2 "
            + "if nobody has it, for 5 if it is not closed.");
        s.hall(1, 2);
        s.calls("locker(1) = 1");
        for (int what = 0; what <= 6; what++) {
            s.changesNothing("lockerOf(-1, " + what + ") = -1; lockerOf(2, " + what + ") = -1; lockerOf(12, " + what
                + ") = -1");
        }
        s.changesNothing("lockerOf(MIN, 2) = -1; lockerOf(MAX, 5) = -1; lockerOf(0, -1) = -1; lockerOf(0, 7) = -1");
        s.changesNothing("lockerOf(0, MIN) = -1; lockerOf(0, MAX) = -1; lockerOf(2, 7) = -1");
        s.changesNothing("lockerOf(1, 2) = -4; lockerOf(1, 5) = -4; lockerOf(0, 2) = -4; lockerOf(0, 5) = -4");
        s.calls("lend(0, 2) = 0; lockerOf(0, 2) = 0; lockerOf(0, 5) = -4");
        s.calls("2 x lose(0)", "lockerOf(0, 2) = -4; lockerOf(0, 5) = 3; pass(3) = 0; lockerOf(0, 2) = 0; lockerOf(0, 5) = -4");
        s.calls("giveBack(0) = 0; lockerOf(0, 2) = -4; lockerOf(0, 5) = -4");
    }

    private static void lockerOfEach() {
        s.of("Promise 16: lockerOf", "0: its size; 1: 1 if it is in a row, otherwise 0;");
        s.hall(1);
        s.calls("locker(2) = 0; lockerOf(0, 0) = 2; lockerOf(0, 1) = 0; stand(0, 2) = 1; lockerOf(0, 1) = 1; "
            + "lend(0, 3) = 0; lockerOf(0, 1) = 1");
        s.calls("lockerOf(0, 0) = 2; 2 x lose(0); lockerOf(0, 1) = 1");
        s.of("Promise 16: lockerOf", "3: 1 if it is free, otherwise 0; 4: 1 if it has a spare key, otherwise 0;");
        s.hall(1);
        s.calls("locker(2) = 0; lockerOf(0, 3) = 0; lockerOf(0, 4) = 1; stand(0, 2) = 1; lockerOf(0, 3) = 1; "
            + "lend(0, 3) = 0; lockerOf(0, 3) = 0");
        s.calls("lockerOf(0, 4) = 1; lose(0) = 5; lockerOf(0, 4) = 0; lose(0) = 30; lockerOf(0, 4) = 1; lockerOf(0, 3) = 0");
    }

    private static void holders() {
        s.of("Promise 16: lockerOf", "2: the person who has it");
        s.hall(10, 1);
        s.calls("lend(9, 1) = 0; lockerOf(0, 2) = 9; lend(0, 1) = 101; lockerOf(0, 2) = 9; giveBack(9) = 0; "
            + "lockerOf(0, 2) = 0");
        s.calls("pass(30) = 0; lockerOf(0, 2) = 0; pass(1) = 1; lockerOf(0, 2) = -4");
    }

    private static void closedUntil() {
        s.of("Promise 16: lockerOf", "5: the day on which it is open again");
        s.hall(1, 1);
        s.calls("pass(7); lend(0, 1) = 0; lose(0) = 5; lockerOf(0, 5) = -4; lose(0) = 30; lockerOf(0, 5) = 10; pass(2)");
        s.calls("lockerOf(0, 5) = 10; count(5) = 1; pass(1); lockerOf(0, 5) = -4; count(5) = 0");
    }

    private static void timesLent() {
        s.of("Promise 16: lockerOf", "6: how often it was lent so far, also by swaps");
        s.hall(3, 0, 1);
        s.calls("lockerOf(0, 6) = 0; lend(0, 0) = 0; lockerOf(0, 6) = 1; renew(0) = 20; lockerOf(0, 6) = 1; giveBack(0) = 0");
        s.calls("lockerOf(0, 6) = 1; lend(1, 0) = 0; lockerOf(0, 6) = 2");
        // To who waits; by a move to a free one; by a ring; to the one whose lock was changed.
        s.calls("lend(2, 0) = 101; lockerOf(0, 6) = 2; giveBack(1) = 0; lockerOf(0, 6) = 3");
        s.calls("wish(2, 1) = 1; swap() = 1; lockerOf(1, 6) = 1; lockerOf(0, 6) = 3");
        s.calls("lend(0, 0) = 0; wish(0, 1) = 1; wish(2, 0) = 2; swap() = 2; lockerOf(0, 6) = 5; lockerOf(1, 6) = 2");
        s.calls("lose(0) = 5; lose(0) = 30; lockerOf(1, 6) = 2; pass(3) = 0; personOf(0, 0) = 1; lockerOf(1, 6) = 3");
        s.calls("pass(28) = 1; personOf(2, 9) = 1; lockerOf(0, 6) = 5");
    }

    private static void lentBits() {
        s.of("Promise 21: lentBits", "Returns the bits; NOT_FOUND if no locker is in a row.");
        s.changesNothing("lentBits() = -4");
        s.hall(2);
        s.calls("locker(0) = 0; locker(0) = 1");
        s.changesNothing("lentBits() = -4");
        s.calls("stand(0, 0) = 1");
        s.changesNothing("lentBits() = 0");
        s.calls("lend(0, 0) = 0");
        s.changesNothing("lentBits() = " + share(1, 1));
        s.calls("stand(1, 0) = 2; lentBits() = " + share(1, 2));
        s.calls("lose(0) = 5; lose(0) = 30; lentBits() = " + share(1, 2));
        s.calls("lose(0) = 35; lose(0) = 60; count(5) = 2; lentBits() = 0; pass(3); lentBits() = " + share(1, 2));
    }

    private static void lentBitsOfEachShare() {
        s.of("Promise 21: lentBits", "Returns the bits of a share as a double: of the lockers that are in rows, those that "
            + "are lent; both as doubles.");
        for (int all = 1; all <= 12; all++) {
            int[] sizes = new int[all];
            for (int i = 0; i < all; i++) {
                sizes[i] = i % 3;
            }
            s.hall(10, sizes);
            s.calls("lentBits() = 0");
            for (int lent = 1; lent <= all && lent <= 10; lent++) {
                s.calls("lend(" + (lent - 1) + ", 3); lentBits() = " + share(lent, all));
            }
        }
    }

    private static long share(int lent, int all) {
        return Double.doubleToRawLongBits((double) lent / (double) all);
    }
}
