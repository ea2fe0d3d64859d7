/** Boundary cases of "Keys", "A day", "Settings" and promises 8, 13, 14, 19 and 22. */
public final class DaysEdgesTest {
    private static final Sentences s = new Sentences("DaysEdgesTest");

    public static void main(String[] args) {
        keyLost();
        lockChanged();
        lowestFreeOfItsSize();
        waitsAsTheLast();
        closedForThreeDays();
        lose();
        dayFirst();
        openAgainByNumber();
        closedOnesAheadOfPeople();
        byPeoplesNumbers();
        pass();
        passAnswers();
        passUpTo5000();
        settings();
        set();
        loansStayDue();
        feeIn();
        feeInOfEachDay();
        feeInOfOthers();
        feeInBeyond5000();
        overdueBits();
        overdueBitsOfMeans();
        s.end();
    }

    private static void keyLost() {
        s.of("Keys", "When a person loses the key, 5 coins are owed. If there is a spare key, it is used.");
        s.hall(2, 0);
        s.calls("lend(0, 0) = 0; renew(0) = 20; wish(0, 1) = 1; lose(0) = 5; lockerOf(0, 4) = 0; personOf(0, 0) = 0; "
            + "personOf(0, 1) = 20");
        s.calls("personOf(0, 2) = 1; personOf(0, 6) = 1; personOf(0, 8) = 1; lockerOf(0, 5) = -4; lockerOf(0, 6) = 1; "
            + "count(5) = 0");
        s.calls("count(10) = 5");
        // The key of the locker, not of the person.
        s.calls("giveBack(0) = 0; lockerOf(0, 4) = 0; lend(1, 0) = 0; lose(1) = 25; personOf(1, 8) = 1; lockerOf(0, 4) = 1; "
            + "personOf(0, 8) = 1");
    }

    private static void lockChanged() {
        s.of("Keys", "Otherwise the lock is changed: 20 coins more are owed, the loan ends, the locker has a spare key "
            + "again and is closed for 3 days");
        s.hall(1, 0);
        s.calls("lend(0, 0) = 0; renew(0) = 20; wish(0, 1) = 1; lose(0) = 5; pass(4); lose(0) = 30; lockerOf(0, 4) = 1; "
            + "lockerOf(0, 5) = 7");
        s.calls("lockerOf(0, 2) = -4; lockerOf(0, 3) = 0; lockerOf(0, 1) = 1; personOf(0, 0) = -4; personOf(0, 1) = -4; "
            + "personOf(0, 6) = -4");
        s.calls("personOf(0, 8) = 2; personOf(0, 9) = 0; count(4) = 0; count(5) = 1; count(3) = 0; count(7) = 0; "
            + "count(10) = 30");
        // With the new lock it begins again: a spare key, then a lock.
        s.calls("pass(3); personOf(0, 0) = 0; personOf(0, 2) = 0; lose(0) = 35; personOf(0, 0) = 0; lose(0) = 60; "
            + "personOf(0, 7) = 0");
        s.calls("lockerOf(0, 5) = 10; personOf(0, 8) = 4");
    }

    private static void lowestFreeOfItsSize() {
        s.of("Keys", "the person is lent the lowest free locker of its size");
        s.hall(2, 0, 1, 1, 1, 2);
        s.calls("lend(0, 1) = 1; lend(1, 1) = 2; lose(0) = 5; pass(2); lose(0) = 30; personOf(0, 0) = 3; "
            + "personOf(0, 1) = 12; lockerOf(3, 6) = 1");
        s.calls("lockerOf(0, 3) = 1; lockerOf(4, 3) = 1; lockerOf(3, 4) = 1");
        // Whatever is owed; and the closed one is none of the free ones.
        s.hall(1, 0, 0, 0);
        s.calls("lend(0, 0) = 0; 2 x lose(0)", "personOf(0, 0) = 1; 2 x lose(0)", "personOf(0, 4) = 60; personOf(0, 0) = 2; "
            + "2 x lose(0)");
        s.calls("personOf(0, 4) = 90; personOf(0, 0) = -4; personOf(0, 7) = 0; count(5) = 3; pass(3); personOf(0, 0) = 0; "
            + "count(3) = 2");
    }

    private static void waitsAsTheLast() {
        s.of("Keys", "or waits for one of that size, as the last one.");
        for (int size = 0; size < 3; size++) {
            s.hall(4, size, (size + 1) % 3);
            s.calls("lend(0, " + size + ") = 0", "lend(1, " + size + ") = 101", "lend(2, " + (size + 2) % 3
                + ") = 102; 2 x lose(0)");
            s.calls("personOf(0, 7) = 2; waitingAt(2, 0) = 0", "waitingAt(2, 1) = " + size, "count(6) = 3; lockerOf(1, 3) = 1");
            // It is closed, so it does not go to who waits, either.
            s.calls("personOf(1, 7) = 0; lockerOf(0, 2) = -4; pass(3); personOf(1, 0) = 0; personOf(0, 7) = 1");
        }
    }

    private static void closedForThreeDays() {
        s.of("Keys", "is closed for 3 days");
        s.hall(1, 0);
        s.calls("lend(0, 0) = 0; 2 x lose(0)", "giveBack(0) = 0; lockerOf(0, 5) = 3; lend(0, 0) = 101; giveBack(0) = 0; "
            + "pass(1); count(5) = 1");
        s.calls("pass(1); count(5) = 1; lockerOf(0, 5) = 3; lend(0, 0) = 101; pass(1); count(5) = 0; lockerOf(0, 5) = -4; "
            + "personOf(0, 0) = 0");
        s.calls("personOf(0, 1) = 13");
    }

    private static void lose() {
        s.of("Promise 8: lose", "Returns what the person owes then; INVALID_ARGUMENT; NOT_POSSIBLE if the person has no "
            + "locker.");
        s.hall(2, 1);
        s.changesNothing("lose(-1) = -1; lose(2) = -1; lose(MIN) = -1; lose(MAX) = -1; lose(10) = -1; lose(0) = -2");
        s.calls("lend(0, 1) = 0; lend(1, 3) = 101");
        s.changesNothing("lose(1) = -2");
        s.calls("pass(12); personOf(0, 4) = 4");
        s.changes("lose(0) = 9; lose(0) = 34");
        s.changesNothing("lose(0) = -2");
        s.calls("pay(0, 34) = 0; pass(3); personOf(1, 0) = 0");
        s.changes("lose(1) = 5");
        s.calls("personOf(0, 8) = 2; personOf(1, 8) = 1; pass(31) = 1; personOf(1, 0) = -4");
        s.changesNothing("lose(1) = -2");
    }

    private static void dayFirst() {
        s.of("A day", "The time becomes greater by 1; then lockers that have been closed for 3 days are open again");
        s.hall(1, 0);
        s.calls("lend(0, 0) = 0; set(0, 1) = 10; 2 x lose(0)", "pass(2); count(2) = 2; personOf(0, 7) = 0; pass(1); "
            + "count(2) = 3");
        s.calls("personOf(0, 0) = 0; personOf(0, 1) = 4; pass(1); personOf(0, 3) = 0; personOf(0, 4) = 30; pass(1); "
            + "personOf(0, 4) = 31");
    }

    private static void openAgainByNumber() {
        s.of("A day", "by number (free ones go to who waits)");
        s.hall(2, 0, 0);
        s.calls("lend(0, 0) = 0; lend(1, 0) = 1; 2 x lose(1); 2 x lose(0)", "waitingAt(0, 0) = 1; waitingAt(1, 0) = 0; "
            + "pass(3)");
        s.calls("personOf(1, 0) = 0; personOf(0, 0) = 1; count(5) = 0; count(6) = 0");
        // One that was closed a day later is open a day later.
        s.hall(2, 0, 0);
        s.calls("lend(0, 0) = 0; lend(1, 0) = 1; 2 x lose(1)", "pass(1); 2 x lose(0)",
            "pass(2); personOf(1, 0) = 1; personOf(0, 7) = 0");
        s.calls("lockerOf(0, 5) = 4; pass(1); personOf(0, 0) = 0; count(5) = 0");
        s.hall(3, 0, 1);
        s.calls("lend(0, 0) = 0; lend(1, 1) = 1; 2 x lose(0); giveBack(0) = 0; 2 x lose(1); giveBack(1) = 0; "
            + "lend(2, 3) = 101; pass(3)");
        s.calls("personOf(2, 0) = 0; lockerOf(1, 3) = 1");
    }

    private static void closedOnesAheadOfPeople() {
        s.of("A day", "then by people's numbers: whose loan is overdue owes the fee of the day");
        // On day 31 locker 1 is open again first and goes to the first of those who wait, and locker 0 is opened then.
        s.hall(4, 0, 0);
        s.calls("lend(0, 0) = 0; lend(1, 0) = 1; lend(2, 0) = 101; lend(3, 0) = 102; pass(28); 2 x lose(1)",
            "lockerOf(1, 5) = 31");
        s.calls("pass(3) = 1; personOf(2, 0) = 1; personOf(3, 0) = 0; personOf(1, 7) = 0; count(6) = 1");
    }

    private static void byPeoplesNumbers() {
        s.of("A day", "and if it is the 21st one, the locker is opened (and goes to who waits).");
        s.hall(4, 0, 0);
        s.calls("lend(1, 0) = 0; lend(0, 0) = 1; lend(3, 0) = 101; lend(2, 0) = 102; pass(30) = 0; pass(1) = 2; "
            + "personOf(3, 0) = 1");
        s.calls("personOf(2, 0) = 0; personOf(3, 1) = 41; personOf(2, 4) = 0; personOf(3, 4) = 0; personOf(0, 4) = 64; "
            + "personOf(1, 4) = 64");
        // Who gets a locker on a day owes nothing on that day, whatever the setting.
        s.hall(2, 0);
        s.calls("lend(0, 0) = 0; lend(1, 0) = 101; set(0, 1) = 10; pass(31) = 1; personOf(1, 1) = 32; pass(1); "
            + "personOf(1, 4) = 0; pass(1)");
        s.calls("personOf(1, 4) = 1");
    }

    private static void pass() {
        s.of("Promise 13: pass", "Returns how many lockers are opened in them; INVALID_ARGUMENT if days is out of range; "
            + "LIMIT_REACHED if the time would be above 5000.");
        s.hall(1, 0);
        s.changesNothing("pass(0) = -1; pass(-1) = -1; pass(100) = -1; pass(MIN) = -1; pass(MAX) = -1");
        s.changes("pass(1) = 0; pass(99) = 0");
        s.calls("count(2) = 100");
        // Passing days one by one and at once comes to the same.
        s.hall(2, 0, 2);
        s.calls("lend(0, 0) = 0; lend(1, 2) = 1; 31 x pass(1); count(8) = 226; personOf(0, 9) = 1");
        s.hall(2, 0, 2);
        s.calls("lend(0, 0) = 0; lend(1, 2) = 1; pass(31) = 2; count(8) = 226; personOf(0, 9) = 1");
    }

    private static void passAnswers() {
        s.of("Promise 13: pass", "Returns how many lockers are opened in them");
        s.hall(3, 0, 1);
        s.calls("lend(0, 0) = 0; pass(1); lend(1, 1) = 1; lend(2, 0) = 101; pass(29) = 0");
        s.changes("pass(1) = 1");
        s.changes("pass(1) = 1");
        s.calls("personOf(2, 1) = 41; pass(29) = 0; pass(1) = 1; pass(99) = 0");
        // One locker, opened twice.
        s.hall(2, 0);
        s.calls("lend(0, 0) = 0; lend(1, 3) = 101; pass(61) = 1; personOf(1, 0) = 0; undo() = 3; pass(62) = 2; "
            + "personOf(1, 9) = 1");
    }

    private static void passUpTo5000() {
        s.of("Promise 13: pass", "LIMIT_REACHED if the time would be above 5000.");
        s.calls("50 x pass(99) = 0; count(2) = 4950");
        s.changesNothing("pass(51) = -3; pass(99) = -3; pass(100) = -1; pass(0) = -1; pass(MAX) = -1");
        s.changes("pass(50) = 0");
        s.calls("count(2) = 5000");
        s.changesNothing("pass(1) = -3; pass(99) = -3; pass(0) = -1; pass(100) = -1; pass(MIN) = -1");
        s.calls("undo() = 3; pass(49) = 0; pass(2) = -3; pass(1) = 0; pass(1) = -3; person() = 0; locker(0) = 0; "
            + "stand(0, 0) = 1");
        s.calls("lend(0, 0) = 0; personOf(0, 1) = 5010; renew(0) = 5020; 2 x lose(0)", "lockerOf(0, 5) = 5003; pass(1) = -3");
    }

    private static void settings() {
        s.of("Settings", "The settings are (in parentheses: range; first value): 0 the days of a loan (1 to 60; 10), 1 how "
            + "often it can be renewed (0 to 5; 2), 2 what opening costs (0 to 99; 15).");
        int[] firsts = {10, 2, 15};
        int[] lowest = {1, 0, 0};
        int[] highest = {60, 5, 99};
        for (int what = 0; what < 3; what++) {
            s.hall(0);
            String set = "set(" + what + ", ";
            s.calls("count(" + (20 + what) + ") = " + firsts[what]);
            s.changesNothing(set + (lowest[what] - 1) + ") = -1", set + (highest[what] + 1) + ") = -1", set + "MIN) = -1",
                set + "MAX) = -1");
            s.changesNothing(set + "-1) = -1", set + "100) = -1");
            s.changes(set + lowest[what] + ") = " + firsts[what], set + highest[what] + ") = " + lowest[what]);
            s.calls("count(" + (20 + what) + ") = " + highest[what]);
            for (int other = 0; other < 3; other++) {
                s.calls("count(" + (20 + other) + ") = " + (other == what ? highest[what] : firsts[other]));
            }
        }
    }

    private static void set() {
        s.of("Promise 14: set", "Returns what it was; INVALID_ARGUMENT if an argument is out of range.");
        s.changesNothing("set(-1, 1) = -1; set(3, 1) = -1; set(20, 1) = -1; set(MIN, 1) = -1; set(MAX, 1) = -1; "
            + "set(3, 100) = -1");
        // To what it was is a change, too.
        s.changes("set(0, 10) = 10; set(1, 2) = 2; set(2, 15) = 15; set(2, 99) = 15; set(2, 99) = 99; set(1, 5) = 2; "
            + "set(0, 60) = 10");
    }

    private static void loansStayDue() {
        s.of("Promise 14: set", "loans that there are stay due as they are.");
        s.hall(2, 0, 0);
        s.calls("lend(0, 0) = 0; renew(0) = 20; set(0, 1) = 10; personOf(0, 1) = 20; set(1, 0) = 2; personOf(0, 2) = 1; "
            + "personOf(0, 1) = 20");
        s.calls("pass(5); personOf(0, 3) = 0; personOf(0, 4) = 0; lend(1, 0) = 1; personOf(1, 1) = 6; set(0, 60) = 1; "
            + "personOf(1, 1) = 6");
    }

    private static void feeIn() {
        s.of("Promise 19: feeIn", "Returns the coins; INVALID_ARGUMENT if an argument is out of range.");
        s.hall(2, 0);
        s.changesNothing("feeIn(-1, 1) = -1; feeIn(2, 1) = -1; feeIn(MIN, 1) = -1; feeIn(MAX, 1) = -1; feeIn(10, 1) = -1; "
            + "feeIn(0, 0) = -1");
        s.changesNothing("feeIn(0, -1) = -1; feeIn(0, 100) = -1; feeIn(0, MIN) = -1; feeIn(0, MAX) = -1; feeIn(2, 100) = -1");
        s.changesNothing("feeIn(0, 1) = 0; feeIn(0, 99) = 0");
        s.calls("lend(0, 0) = 0; pass(10)");
        s.changesNothing("feeIn(0, 1) = 1; feeIn(0, 99) = 64; feeIn(1, 99) = 0");
    }

    private static void feeInOfEachDay() {
        s.of("Promise 19: feeIn", "Tells what would come to the debt of a person in some days, if nothing else happened");
        for (int size = 0; size < 3; size++) {
            s.hall(1, size);
            s.calls("set(2, 99); lend(0, " + size + ") = 0; lose(0) = 5; pass(8)");
            int fee = 0;
            for (int day = 9; day <= 99; day++) {
                int overdue = day - 10;
                fee += overdue < 1 || overdue > 21 ? 0 : (overdue < 8 ? 1 : overdue < 15 ? 2 : 4) * (size + 1)
                    + (overdue == 21 ? 99 : 0);
                s.calls("feeIn(0, " + (day - 8) + ") = " + fee);
            }
            // What is owed already does not come once more.
            s.calls("pass(5); personOf(0, 4) = " + (5 + 3 * (size + 1)), "feeIn(0, 1) = " + (size + 1),
                "feeIn(0, 99) = " + (46 * (size + 1) + 99));
            s.changesNothing("feeIn(0, 99) = " + (46 * (size + 1) + 99));
        }
    }

    private static void feeInOfOthers() {
        s.of("Promise 19: feeIn", "(days go by for all as pass() lets them");
        // Who waits gets the locker that is opened on day 31, for 10 days.
        s.hall(3, 1);
        s.calls("lend(0, 1) = 0; lend(1, 3) = 101; lend(2, 0) = 102");
        s.changesNothing("feeIn(1, 41) = 0; feeIn(1, 42) = 2; feeIn(1, 61) = 90; feeIn(1, 62) = 113; feeIn(1, 99) = 113; "
            + "feeIn(2, 99) = 0");
        // Who waits for the own locker, of which the lock was changed, has it from day 3 on.
        s.hall(1, 2);
        s.calls("lend(0, 2) = 0; 2 x lose(0)");
        s.changesNothing("feeIn(0, 13) = 0; feeIn(0, 14) = 3; feeIn(0, 34) = 162; feeIn(0, 99) = 162");
    }

    private static void feeInBeyond5000() {
        s.of("Promise 19: feeIn", "beyond the day 5000, too).");
        s.hall(2, 0);
        s.calls("50 x pass(99) = 0; pass(49) = 0; lend(0, 0) = 0; lend(1, 0) = 101; count(2) = 4999");
        s.changesNothing("feeIn(0, 10) = 0; feeIn(0, 11) = 1; feeIn(0, 31) = 64; feeIn(0, 99) = 64; feeIn(1, 42) = 1; "
            + "feeIn(1, 99) = 64");
        s.calls("pass(1) = 0; count(2) = 5000; pass(1) = -3");
        s.changesNothing("feeIn(0, 1) = 0; feeIn(0, 10) = 1; feeIn(0, 99) = 64; feeIn(1, 99) = 64; feeIn(0, 100) = -1");
    }

    private static void overdueBits() {
        s.of("Promise 22: overdueBits", "Returns the bits; NOT_FOUND if there is no loan.");
        s.changesNothing("overdueBits() = -4");
        s.hall(2, 0);
        s.changesNothing("overdueBits() = -4");
        s.calls("lend(0, 0) = 0; lend(1, 0) = 101");
        s.changesNothing("overdueBits() = 0");
        s.calls("pass(10)");
        s.changesNothing("overdueBits() = 0");
        s.calls("pass(1)");
        s.changesNothing("overdueBits() = " + Float.floatToRawIntBits(1f));
        s.calls("pass(19); overdueBits() = " + Float.floatToRawIntBits(20f), "pass(1) = 1; overdueBits() = 0; giveBack(1) = 0");
        s.changesNothing("overdueBits() = -4");
    }

    private static void overdueBitsOfMeans() {
        s.of("Promise 22: overdueBits", "the days overdue of all loans together, as a float, divided by the loans, as a "
            + "float.");
        for (int loans = 1; loans <= 10; loans++) {
            s.hall(10, 0, 0, 0, 0, 1, 1, 1, 1, 2, 2, 2, 2);
            // The first ones are due on days 1, 2 and so on, the last one on day 60.
            for (int i = 0; i < loans; i++) {
                s.calls("set(0, " + (i == loans - 1 && i > 0 ? 60 : i + 1) + ")", "lend(" + i + ", 3) = " + i);
            }
            for (int day = 1; day <= 15; day++) {
                int days = 0;
                for (int i = 0; i < loans; i++) {
                    days += i == loans - 1 && i > 0 ? 0 : Math.max(0, day - i - 1);
                }
                s.calls("pass(1) = 0; overdueBits() = " + Float.floatToRawIntBits((float) days / (float) loans));
            }
        }
    }
}
