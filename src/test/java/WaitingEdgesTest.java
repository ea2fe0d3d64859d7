/** Boundary cases of "Waiting" and promise 17. */
public final class WaitingEdgesTest {
    private static final Sentences s = new Sentences("WaitingEdgesTest");

    public static void main(String[] args) {
        whoCanWait();
        inTheOrderTheyCame();
        firstForTheSizeOrAny();
        whateverTheyOwe();
        whoWaitsNoMore();
        givenBack();
        opened();
        leftBySwap();
        putIntoARow();
        closedNoMore();
        waitingAt();
        s.end();
    }

    private static void whoCanWait() {
        s.of("Waiting", "People without a locker can wait for one, of a size or of any (3), in the order in which they came.");
        s.hall(5, 1);
        s.calls("lend(0, 1) = 0; lend(0, 2) = -2; lend(0, 3) = -2; count(6) = 0");
        for (int size = 0; size <= 3; size++) {
            s.calls("lend(" + (size + 1) + ", " + size + ") = " + (101 + size), "waitingAt(" + size + ", 1) = " + size);
        }
        s.calls("lend(1, 4) = -1; lend(1, 3) = -2; count(6) = 4");
    }

    private static void inTheOrderTheyCame() {
        s.of("Waiting", "in the order in which they came.");
        s.hall(10);
        int[] order = {7, 0, 9, 3, 1, 8, 2, 6, 5, 4};
        for (int i = 0; i < 10; i++) {
            s.calls("lend(" + order[i] + ", 3) = " + (101 + i));
        }
        for (int i = 0; i < 10; i++) {
            s.calls("waitingAt(" + i + ", 0) = " + order[i], "personOf(" + order[i] + ", 7) = " + i);
        }
        // Who ceases and comes again is the last one.
        s.calls("giveBack(7) = 0; lend(7, 3) = 110; waitingAt(0, 0) = 0; waitingAt(9, 0) = 7");
        for (int i = 1; i < 10; i++) {
            s.calls("locker(" + i % 3 + ")", "stand(" + (i - 1) + ", " + i % 3 + ")", "personOf(" + order[i] + ", 0) = "
                + (i - 1));
        }
    }

    private static void firstForTheSizeOrAny() {
        s.of("Waiting", "it goes to the first of those who wait for its size or for any");
        for (int size = 0; size < 3; size++) {
            int other = (size + 1) % 3;
            int third = (size + 2) % 3;
            s.hall(5);
            s.calls("lend(0, " + other + ") = 101", "lend(1, " + third + ") = 102",
                "lend(2, " + size + ") = 103; lend(3, 3) = 104",
                "lend(4, " + size + ") = 105");
            s.calls("3 x locker(" + size + ")", "stand(1, " + size + ") = 1; personOf(2, 0) = 1", "stand(0, " + size + ") = 2",
                "personOf(3, 0) = 0; stand(2, " + size + ") = 3; personOf(4, 0) = 2; personOf(0, 7) = 0; "
                + "personOf(1, 7) = 1; count(6) = 2");
            s.hall(3);
            s.calls("lend(2, 3) = 101", "lend(1, " + size + ") = 102; lend(0, 3) = 103");
            s.calls("3 x locker(" + size + ")", "stand(0, " + size + ") = 1; personOf(2, 0) = 0", "stand(1, " + size + ") = 2",
                "personOf(1, 0) = 1; stand(2, " + size + ") = 3; personOf(0, 0) = 2; count(6) = 0");
        }
    }

    private static void whateverTheyOwe() {
        s.of("Waiting", "(whatever they owe)");
        // Person 0 owes 60 and waits since the lock was changed a second time; another one waits behind.
        String indebted = "lend(0, 0) = 0; 2 x lose(0); pass(3); lose(0) = 35; lose(0) = 60; personOf(0, 0) = -4; "
            + "lend(1, 3) = 102";
        s.hall(2, 0);
        s.calls(indebted, "locker(0) = 1; stand(1, 0) = 2; personOf(0, 0) = 1; personOf(1, 7) = 0");
        s.hall(2, 0);
        s.calls(indebted, "pass(3) = 0; personOf(0, 0) = 0; personOf(0, 1) = 16; personOf(1, 7) = 0; personOf(0, 4) = 60");
        s.hall(3, 0, 0);
        s.calls("lend(2, 0) = 0; lend(0, 0) = 1; 2 x lose(0); pass(3); lose(0) = 35; lose(0) = 60; giveBack(2) = 0; "
            + "personOf(0, 0) = 0");
    }

    private static void whoWaitsNoMore() {
        s.of("Waiting", "who waits no more; otherwise it stays free.");
        s.hall(2, 0);
        s.calls("lend(0, 0) = 0; lend(1, 3) = 101; giveBack(0) = 0; personOf(1, 0) = 0; personOf(1, 7) = -4; count(6) = 0");
        s.calls("waitingAt(0, 0) = -4; locker(1) = 1; stand(1, 1) = 1; lockerOf(1, 3) = 1; personOf(1, 0) = 0; count(4) = 1");
        s.calls("giveBack(1) = 0; lockerOf(0, 3) = 1; giveBack(1) = -2");
    }

    private static void givenBack() {
        s.of("Waiting", "Whenever a locker becomes free, it goes to the first of those who wait for its size or for any");
        s.hall(4, 1);
        s.calls("lend(0, 1) = 0; lend(1, 0) = 101; lend(2, 1) = 102; lend(3, 1) = 103; pass(4); giveBack(0) = 0; "
            + "personOf(2, 0) = 0");
        s.calls("personOf(2, 1) = 14; personOf(2, 2) = 0; lockerOf(0, 6) = 2; personOf(1, 7) = 0; personOf(3, 7) = 1; "
            + "giveBack(2) = 0");
        s.calls("personOf(3, 0) = 0; giveBack(3) = 0; lockerOf(0, 3) = 1; lockerOf(0, 2) = -4; personOf(1, 7) = 0");
    }

    private static void opened() {
        s.of("A day", "the locker is opened (and goes to who waits)");
        s.hall(3, 1);
        s.calls("lend(0, 1) = 0; lend(1, 2) = 101; lend(2, 3) = 102; pass(30) = 0; personOf(2, 7) = 1; pass(1) = 1; "
            + "personOf(2, 0) = 0");
        s.calls("personOf(2, 1) = 41; personOf(2, 4) = 0; personOf(1, 7) = 0; pass(31) = 1; lockerOf(0, 3) = 1; "
            + "personOf(1, 7) = 0");
    }

    private static void leftBySwap() {
        s.of("Wishes and swaps", "the old locker becomes free then (and goes to who waits, if anybody does).");
        s.hall(4, 0, 1, 2);
        s.calls("lend(0, 0) = 0; lend(1, 1) = 1; lend(2, 1) = 101; lend(3, 0) = 102; wish(0, 2) = 1; wish(1, 0) = 2; pass(2)");
        // The one who waits is ahead of the one who wishes, and is not one who moves.
        s.calls("swap() = 1; personOf(0, 0) = 2; personOf(3, 0) = 0; personOf(3, 1) = 12; personOf(2, 7) = 0; "
            + "personOf(1, 0) = 1");
        s.calls("personOf(1, 6) = 0; count(11) = 1; count(6) = 1");
        s.hall(3, 0, 1, 2);
        s.calls("lend(0, 0) = 0; lend(1, 1) = 1; lend(2, 1) = 101; wish(0, 2) = 1; swap() = 1; lockerOf(0, 3) = 1; "
            + "personOf(2, 7) = 0");
    }

    private static void putIntoARow() {
        s.of("Waiting", "(A locker that is put into a row, too, and one that is closed no more.)");
        s.hall(3);
        s.calls("lend(0, 1) = 101; lend(1, 0) = 102; pass(3); locker(0) = 0; personOf(1, 7) = 1; stand(0, 0) = 1; "
            + "personOf(1, 0) = 0");
        s.calls("personOf(1, 1) = 13; lockerOf(0, 6) = 1; lockerOf(0, 3) = 0; personOf(0, 7) = 0; locker(0) = 1; "
            + "stand(1, 0) = 2");
        s.calls("lockerOf(1, 3) = 1; personOf(0, 7) = 0; locker(1) = 2; stand(2, 1) = 1; personOf(0, 0) = 2; count(6) = 0");
    }

    private static void closedNoMore() {
        s.of("Waiting", "and one that is closed no more.)");
        s.hall(3, 0);
        s.calls("lend(0, 0) = 0; lend(1, 1) = 101; lend(2, 3) = 102; 2 x lose(0)",
            "personOf(0, 7) = 2; pass(2); personOf(2, 7) = 1");
        s.calls("lockerOf(0, 2) = -4; pass(1); personOf(2, 0) = 0; personOf(2, 1) = 13; personOf(1, 7) = 0; "
            + "personOf(0, 7) = 1");
        s.hall(3, 0);
        s.calls("lend(0, 0) = 0; 2 x lose(0)", "giveBack(0) = 0; lend(1, 1) = 101; pass(3); lockerOf(0, 3) = 1; "
            + "personOf(1, 7) = 0");
    }

    private static void waitingAt() {
        s.of("Promise 17: waitingAt", "Returns the number; INVALID_ARGUMENT if index is negative or what is out of range; "
            + "NOT_FOUND if there are not so many.");
        s.hall(10);
        s.changesNothing("waitingAt(0, 0) = -4; waitingAt(0, 1) = -4; waitingAt(-1, 0) = -1; waitingAt(0, 2) = -1; "
            + "waitingAt(0, -1) = -1");
        s.calls("lend(9, 3) = 101; lend(0, 0) = 102");
        s.changesNothing("waitingAt(0, 0) = 9; waitingAt(0, 1) = 3; waitingAt(1, 0) = 0; waitingAt(1, 1) = 0");
        s.changesNothing("waitingAt(2, 0) = -4; waitingAt(2, 1) = -4; waitingAt(9, 0) = -4; waitingAt(10, 0) = -4; "
            + "waitingAt(MAX, 1) = -4");
        s.changesNothing("waitingAt(-1, 1) = -1; waitingAt(MIN, 0) = -1; waitingAt(0, MIN) = -1; waitingAt(0, MAX) = -1");
        s.changesNothing("waitingAt(2, 2) = -1; waitingAt(MAX, -1) = -1; waitingAt(10, 2) = -1");
        for (int i = 1; i < 9; i++) {
            s.calls("lend(" + i + ", 2) = " + (102 + i));
        }
        s.calls("waitingAt(9, 0) = 8; waitingAt(9, 1) = 2; waitingAt(10, 0) = -4; waitingAt(10, 1) = -4; "
            + "waitingAt(11, 0) = -4");
    }
}
