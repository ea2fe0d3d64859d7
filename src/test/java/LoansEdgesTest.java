/** Boundary cases of "Loans" and promises 5 to 7, 12 and 15. */
public final class LoansEdgesTest {
    private static final Sentences s = new Sentences("LoansEdgesTest");

    public static void main(String[] args) {
        atMostTenPeople();
        oneLockerAtMost();
        dueBySetting();
        renewedAsOftenAsSet();
        dueLaterThanItWas();
        overdueFromTheDayBehind();
        feeOfADay();
        openedOnThe21st();
        keysStay();
        owesWhatIsNotPaid();
        lendTheLowest();
        lend();
        lendUpTo30();
        giveBack();
        giveBackOfWhoWaits();
        renew();
        renewWhileSomebodyWaits();
        pay();
        payTheMost();
        personOf();
        personOfNotFound();
        personOfSoFar();
        s.end();
    }

    private static void atMostTenPeople() {
        s.of("Loans", "There are at most 10 people, numbered from 0.");
        for (int i = 0; i < 10; i++) {
            s.calls("person() = " + i);
        }
        s.changesNothing("person() = -3; personOf(10, 4) = -1; lend(10, 0) = -1");
        s.calls("personOf(9, 4) = 0; lend(9, 0) = 101; count(1) = 10");
    }

    private static void oneLockerAtMost() {
        s.of("Loans", "A person has one locker at most.");
        s.hall(1, 0, 0, 1);
        s.calls("lend(0, 0) = 0");
        s.changesNothing("lend(0, 0) = -2; lend(0, 1) = -2; lend(0, 2) = -2; lend(0, 3) = -2");
        s.calls("count(4) = 1; count(6) = 0; giveBack(0) = 0; lend(0, 1) = 2");
    }

    private static void dueBySetting() {
        s.of("Loans", "A loan is due so many days later as setting 0 tells.");
        s.hall(4, 0, 0, 1);
        s.calls("lend(0, 0) = 0; personOf(0, 1) = 10; pass(7); set(0, 1) = 10; lend(1, 0) = 1; personOf(1, 1) = 8");
        s.calls("set(0, 60) = 1; lend(2, 1) = 2; personOf(2, 1) = 67; personOf(0, 1) = 10; personOf(1, 1) = 8");
        // Of who waits, the setting and the day count on which the loan begins.
        s.calls("lend(3, 0) = 101; set(0, 5) = 60; pass(1); giveBack(0) = 0; personOf(3, 0) = 0; personOf(3, 1) = 13");
        s.hall(1, 0, 0);
        s.calls("lend(0, 0) = 0; set(0, 33) = 10; pass(4); 2 x lose(0)", "personOf(0, 0) = 1; personOf(0, 1) = 37");
    }

    private static void renewedAsOftenAsSet() {
        s.of("Loans", "It can be renewed at most as often as setting 1 tells");
        for (int times = 0; times <= 5; times++) {
            s.hall(1, 0);
            s.calls("set(1, " + times + ") = 2; lend(0, 0) = 0");
            for (int i = 1; i <= times; i++) {
                s.calls("renew(0) = " + (10 + 10 * i), "personOf(0, 2) = " + i);
            }
            s.changesNothing("renew(0) = -3");
            s.calls("personOf(0, 1) = " + (10 + 10 * times), "personOf(0, 2) = " + times);
        }
        s.hall(1, 0);
        s.calls("lend(0, 0) = 0; renew(0) = 20; set(1, 0) = 2; renew(0) = -3; set(1, 1) = 0; renew(0) = -3; set(1, 2) = 1");
        s.calls("renew(0) = 30; renew(0) = -3; giveBack(0) = 0; lend(0, 0) = 0; personOf(0, 2) = 0; renew(0) = 20");
    }

    private static void dueLaterThanItWas() {
        s.of("Loans", "it is due so many days later then than it was");
        s.hall(1, 0);
        s.calls("lend(0, 0) = 0; pass(4); renew(0) = 20; pass(16); personOf(0, 3) = 0; set(0, 1) = 10; renew(0) = 21");
        s.hall(1, 0);
        s.calls("lend(0, 0) = 0; set(0, 60) = 10; renew(0) = 70; set(0, 1) = 60; renew(0) = 71");
    }

    private static void overdueFromTheDayBehind() {
        s.of("Loans", "From the day behind that on which it is due it is overdue, each day by one more.");
        s.hall(1, 1);
        s.calls("lend(0, 1) = 0; personOf(0, 3) = 0; pass(9); personOf(0, 3) = 0; pass(1); personOf(0, 3) = 0; "
            + "personOf(0, 4) = 0");
        for (int day = 1; day <= 20; day++) {
            s.calls("pass(1) = 0; personOf(0, 3) = " + day);
        }
        s.calls("pass(1) = 1; personOf(0, 3) = -4");
    }

    private static void feeOfADay() {
        s.of("Loans", "The fee of a day overdue is 1 for the first 7 days overdue, 2 for the 8th to the 14th, and 4 for "
            + "later ones, times 1, 2 or 3 by the size (small, middle, large).");
        for (int size = 0; size < 3; size++) {
            int times = size + 1;
            s.hall(1, size);
            s.calls("lend(0, " + size + ") = 0; pass(10); personOf(0, 4) = 0; pass(1); personOf(0, 4) = " + times);
            s.calls("pass(6); personOf(0, 3) = 7; personOf(0, 4) = " + 7 * times);
            s.calls("pass(1); personOf(0, 3) = 8; personOf(0, 4) = " + 9 * times);
            s.calls("pass(6); personOf(0, 3) = 14; personOf(0, 4) = " + 21 * times);
            s.calls("pass(1); personOf(0, 3) = 15; personOf(0, 4) = " + 25 * times);
            s.calls("pass(5); personOf(0, 3) = 20; personOf(0, 4) = " + 45 * times);
        }
    }

    private static void openedOnThe21st() {
        s.of("Loans", "On the 21st day overdue the locker is opened, behind that day's fee: the loan ends, and setting 2 is "
            + "owed besides");
        int[] costs = {0, 1, 15, 99};
        for (int size = 0; size < 3; size++) {
            for (int cost : costs) {
                s.hall(1, size);
                // The setting counts as it is on that day.
                s.calls("set(2, 50); lend(0, " + size + ") = 0; wish(0, " + (size + 1) % 3
                    + ") = 1; pass(30) = 0; personOf(0, 0) = 0");
                s.calls("personOf(0, 9) = 0; set(2, " + cost + ") = 50; pass(1) = 1; personOf(0, 4) = " + (49 * (size + 1)
                    + cost));
                s.calls("personOf(0, 0) = -4; personOf(0, 1) = -4; personOf(0, 2) = -4; personOf(0, 3) = -4; "
                    + "personOf(0, 6) = -4");
                s.calls("personOf(0, 9) = 1; count(4) = 0; count(7) = 0; lockerOf(0, 2) = -4; lockerOf(0, 3) = 1; "
                    + "lockerOf(0, 5) = -4");
                s.calls("pass(99) = 0; personOf(0, 4) = " + (49 * (size + 1) + cost));
            }
        }
    }

    private static void keysStay() {
        s.of("Loans", "(its keys stay as they are)");
        s.hall(1, 0);
        s.calls("lend(0, 0) = 0; pass(31) = 1; lockerOf(0, 4) = 1");
        s.hall(2, 0);
        s.calls("lend(0, 0) = 0; lose(0) = 5; pass(31) = 1; lockerOf(0, 4) = 0; lend(1, 0) = 0; lose(1) = 25; "
            + "lockerOf(0, 4) = 1");
    }

    private static void owesWhatIsNotPaid() {
        s.of("Loans", "A person owes what fees have come and are not paid.");
        s.hall(2, 0, 1);
        s.calls("lend(0, 0) = 0; lend(1, 1) = 1; pass(13); personOf(0, 4) = 3; personOf(1, 4) = 6; pay(0, 2) = 1; "
            + "pay(1, 6) = 0");
        s.calls("personOf(0, 5) = 2; pass(1); personOf(0, 4) = 2; personOf(1, 4) = 2; giveBack(0) = 4; personOf(0, 4) = 2");
        s.calls("pass(5); personOf(0, 4) = 2; pay(0, 3) = -2; pay(0, 2) = 0; personOf(0, 5) = 4");
    }

    private static void lendTheLowest() {
        s.of("Promise 5: lend", "Lends a person the lowest free locker of a size, or lets the person wait.");
        s.hall(7, 2, 1, 0, 1, 0);
        s.calls("lend(0, 0) = 2; lend(1, 0) = 4; lend(2, 0) = 101; lend(3, 3) = 0; lend(4, 3) = 1; lend(5, 3) = 3; "
            + "lend(6, 3) = 102");
        s.hall(2, 1, 2, 0, 2);
        s.calls("lend(0, 2) = 1; lend(1, 2) = 3; giveBack(0) = 0; lend(0, 2) = 1; giveBack(0) = 0; lend(0, 0) = 2");
    }

    private static void lend() {
        s.of("Promise 5: lend", "Returns the number of the locker; 100 plus how many wait then, if there is no such free "
            + "one; INVALID_ARGUMENT if an argument is out of range; NOT_POSSIBLE if the person has a locker, or waits, or "
            + "owes more than 30.");
        s.hall(10);
        s.changesNothing("lend(-1, 0) = -1; lend(10, 0) = -1; lend(MIN, 0) = -1; lend(MAX, 0) = -1");
        s.changesNothing("lend(0, -1) = -1; lend(0, 4) = -1; lend(0, MIN) = -1; lend(0, MAX) = -1");
        for (int i = 0; i < 10; i++) {
            s.changes("lend(" + i + ", " + i % 4 + ") = " + (101 + i));
            s.changesNothing("lend(" + i + ", 3) = -2; lend(" + i + ", 4) = -1");
        }
        s.hall(2, 0, 0, 0, 0, 1, 1, 1, 1, 2, 2, 2);
        s.calls("locker(2) = 11; stand(11, 2) = 4; lend(0, 2) = 8; pass(1)");
        s.changes("lend(1, 3) = 0");
        s.changesNothing("lend(0, 2) = -2; lend(1, 0) = -2; lend(1, 4) = -1; lend(2, 0) = -1");
    }

    private static void lendUpTo30() {
        s.of("Promise 5: lend", "NOT_POSSIBLE if the person has a locker, or waits, or owes more than 30.");
        s.hall(1, 0, 0);
        s.calls("lend(0, 0) = 0; 2 x lose(0)", "giveBack(0) = 0; personOf(0, 4) = 30");
        s.changes("lend(0, 0) = 1");
        s.hall(1, 0, 0);
        s.calls("lend(0, 0) = 0; pass(11); 2 x lose(0)", "giveBack(0) = 0; personOf(0, 4) = 31");
        s.changesNothing("lend(0, 0) = -2; lend(0, 1) = -2; lend(0, 3) = -2; lend(0, 4) = -1");
        s.calls("pay(0, 1) = 30; lend(0, 0) = 1");
        s.hall(1, 0);
        s.calls("lend(0, 0) = 0; 2 x lose(0)", "giveBack(0) = 0; lend(0, 0) = 101; giveBack(0) = 0; pass(3); "
            + "lend(0, 0) = 0; lose(0) = 35");
        s.calls("giveBack(0) = 0; lend(0, 0) = -2; lend(0, 1) = -2; pay(0, 4) = 31; lend(0, 1) = -2; pay(0, 1) = 30; "
            + "lend(0, 1) = 101");
    }

    private static void giveBack() {
        s.of("Promise 6: giveBack", "Returns how many days overdue the loan was, 0 for one who waited; INVALID_ARGUMENT; "
            + "NOT_POSSIBLE if the person has no locker and does not wait.");
        s.hall(2, 0);
        s.changesNothing("giveBack(-1) = -1; giveBack(2) = -1; giveBack(MIN) = -1; giveBack(MAX) = -1; giveBack(10) = -1; "
            + "giveBack(0) = -2");
        int[][] daysAndOverdue = {{1, 0}, {9, 0}, {10, 0}, {11, 1}, {17, 7}, {30, 20}};
        for (int[] of : daysAndOverdue) {
            s.hall(2, 0);
            s.calls("lend(0, 0) = 0; pass(" + of[0] + ") = 0");
            s.changes("giveBack(0) = " + of[1]);
            s.changesNothing("giveBack(0) = -2");
        }
        s.hall(2, 0);
        s.calls("lend(0, 0) = 0; lend(1, 0) = 101; pass(15)");
        s.changes("giveBack(1) = 0");
        s.changesNothing("giveBack(1) = -2");
        s.calls("pass(16) = 1");
        s.changesNothing("giveBack(0) = -2");
    }

    private static void giveBackOfWhoWaits() {
        s.of("Promise 6: giveBack", "a person who waits does so no more.");
        s.hall(4, 0);
        s.calls("lend(3, 0) = 0; lend(2, 0) = 101; lend(0, 3) = 102; lend(1, 0) = 103; giveBack(0) = 0; count(6) = 2");
        s.calls("personOf(0, 7) = -4; personOf(2, 7) = 0; personOf(1, 7) = 1; waitingAt(1, 0) = 1; waitingAt(1, 1) = 0; "
            + "waitingAt(2, 0) = -4");
        s.calls("giveBack(2) = 0; personOf(1, 7) = 0; giveBack(3) = 0; personOf(1, 0) = 0; lend(2, 3) = 101; "
            + "personOf(2, 7) = 0");
        // Who waits since the lock was changed, too.
        s.calls("lose(1) = 5; lose(1) = 30; personOf(1, 7) = 1; giveBack(1) = 0; personOf(1, 7) = -4; pass(3); "
            + "personOf(2, 0) = 0");
    }

    private static void renew() {
        s.of("Promise 7: renew", "Returns the day on which it is due then; INVALID_ARGUMENT; NOT_POSSIBLE if the person has "
            + "no locker, it is overdue, or somebody waits for its size or for any; LIMIT_REACHED if it was renewed as "
            + "often as it can be.");
        s.hall(2, 0);
        s.changesNothing("renew(-1) = -1; renew(2) = -1; renew(MIN) = -1; renew(MAX) = -1; renew(0) = -2");
        s.calls("lend(0, 0) = 0; pass(10)");
        s.changes("renew(0) = 20");
        s.calls("pass(11); personOf(0, 3) = 1");
        s.changesNothing("renew(0) = -2");
        s.calls("set(1, 0) = 2");
        // Overdue, and renewed as often as it can be.
        s.changesNothing("renew(0) = -2");
        s.calls("giveBack(0) = 1; lend(0, 0) = 0");
        s.changesNothing("renew(0) = -3");
        s.calls("pass(10)");
        s.changesNothing("renew(0) = -3");
        s.calls("lend(1, 0) = 101");
        s.changesNothing("renew(0) = -2; renew(1) = -2");
        s.calls("pass(21) = 1");
        s.changesNothing("renew(0) = -2");
    }

    private static void renewWhileSomebodyWaits() {
        s.of("Promise 7: renew", "somebody waits for its size or for any");
        for (int size = 0; size < 3; size++) {
            for (int waited = 0; waited < 4; waited++) {
                s.hall(5, 0, 1, 2);
                s.calls("lend(0, 0) = 0; lend(1, 1) = 1; lend(2, 2) = 2; lend(3, " + waited + ") = 101");
                String call = "renew(" + size + ") = ";
                if (waited == size || waited == 3) {
                    s.changesNothing(call + -2);
                    s.calls("giveBack(3) = 0");
                }
                s.changes(call + 20);
            }
        }
        // Not the first who waits alone.
        s.hall(4, 0, 1);
        s.calls("lend(0, 0) = 0; lend(1, 1) = 1; lend(2, 2) = 101; lend(3, 0) = 102; renew(0) = -2; renew(1) = 20");
    }

    private static void pay() {
        s.of("Promise 12: pay", "Returns what the person owes then; INVALID_ARGUMENT if an argument is out of range; "
            + "NOT_POSSIBLE if the person owes less than that.");
        s.hall(2, 0, 0);
        s.changesNothing("pay(0, 0) = -1; pay(0, 1) = -2; pay(0, 999) = -2; pay(0, 1000) = -1");
        s.calls("lend(0, 0) = 0; lose(0) = 5");
        s.changesNothing("pay(-1, 1) = -1; pay(2, 1) = -1; pay(MIN, 1) = -1; pay(MAX, 1) = -1; pay(0, 0) = -1; "
            + "pay(0, -1) = -1");
        s.changesNothing("pay(0, MIN) = -1; pay(0, MAX) = -1; pay(0, 1000) = -1; pay(0, 999) = -2; pay(0, 6) = -2; "
            + "pay(1, 5) = -2");
        s.changes("pay(0, 1) = 4; pay(0, 4) = 0");
        s.changesNothing("pay(0, 1) = -2");
        s.calls("personOf(0, 5) = 5; personOf(1, 5) = 0; count(9) = 5; count(8) = 0; count(10) = 5");
        // Who has no locker any more pays, too.
        s.calls("lend(1, 0) = 1; lose(1) = 5; giveBack(1) = 0; pay(1, 5) = 0");
    }

    private static void payTheMost() {
        s.of("Promise 12: pay", "1 to 999");
        s.hall(1, 0);
        s.calls("lend(0, 0) = 0");
        for (int round = 1; round <= 34; round++) {
            s.calls("lose(0); lose(0) = " + 30 * round, "pass(3) = 0");
        }
        s.calls("personOf(0, 4) = 1020; pay(0, 1000) = -1; pay(0, 1020) = -1; pay(0, 999) = 21; pay(0, 22) = -2; "
            + "pay(0, 21) = 0");
        s.calls("personOf(0, 5) = 1020; count(9) = 1020; count(10) = 1020; personOf(0, 8) = 68");
    }

    private static void personOf() {
        s.of("Promise 15: personOf", "Returns the number; INVALID_ARGUMENT if an argument is out of range; NOT_FOUND for 0 "
            + "to 3 without a locker, for 6 without a wish, for 7 if the person does not wait.");
        s.hall(2, 0, 1);
        for (int what = 0; what <= 9; what++) {
            s.changesNothing("personOf(-1, " + what + ") = -1; personOf(2, " + what + ") = -1; personOf(10, " + what
                + ") = -1");
        }
        s.changesNothing("personOf(MIN, 0) = -1; personOf(MAX, 0) = -1; personOf(0, -1) = -1; personOf(0, 10) = -1");
        s.changesNothing("personOf(0, MIN) = -1; personOf(0, MAX) = -1; personOf(2, 10) = -1");
        s.calls("lend(1, 1) = 1; wish(1, 0) = 1; personOf(1, 0) = 1; personOf(1, 1) = 10; personOf(1, 2) = 0; "
            + "personOf(1, 3) = 0");
        s.calls("personOf(1, 4) = 0; personOf(1, 5) = 0; personOf(1, 6) = 0; personOf(1, 7) = -4; personOf(1, 8) = 0; "
            + "personOf(1, 9) = 0");
        s.calls("personOf(1, 10) = -1; personOf(1, -1) = -1");
    }

    private static void personOfNotFound() {
        s.of("Promise 15: personOf", "NOT_FOUND for 0 to 3 without a locker, for 6 without a wish, for 7 if the person does "
            + "not wait.");
        s.hall(2, 0);
        int[] nothing = {-4, -4, -4, -4, 0, 0, -4, -4, 0, 0};
        int[] lent = {0, 10, 0, 0, 0, 0, -4, -4, 0, 0};
        int[] wishing = {0, 10, 0, 0, 0, 0, 2, -4, 0, 0};
        int[] waiting = {-4, -4, -4, -4, 0, 0, -4, 0, 0, 0};
        int[] closedOut = {-4, -4, -4, -4, 30, 0, -4, 1, 2, 0};
        int[] later = {0, 13, 0, 1, 0, 2, -4, -4, 0, 0};
        int[] opened = {-4, -4, -4, -4, 62, 2, -4, -4, 0, 1};
        are(0, nothing);
        s.calls("lend(0, 0) = 0");
        are(0, lent);
        s.calls("wish(0, 2) = 1; lend(1, 0) = 101");
        are(0, wishing);
        are(1, waiting);
        s.calls("lose(0) = 5; lose(0) = 30");
        are(0, closedOut);
        are(1, waiting);
        s.calls("pass(15); pay(1, 2) = 0; personOf(1, 0) = 0; giveBack(0) = 0; pay(0, 30) = 0");
        later[3] = 2;
        are(1, later);
        s.calls("pass(19) = 1");
        are(1, opened);
    }

    private static void personOfSoFar() {
        s.of("Promise 15: personOf", "5: what the person has paid so far; 6: the size of the wish; 7: the place among those "
            + "who wait, from 0; 8: keys lost so far; 9: lockers of the person that were opened so far");
        s.hall(2, 0, 1);
        s.calls("set(2, 0); lend(1, 0) = 0; lose(1) = 5; pay(1, 1) = 4; giveBack(1) = 0; personOf(1, 8) = 1; "
            + "personOf(1, 5) = 1; pay(1, 4) = 0");
        s.calls("personOf(1, 5) = 5; lend(1, 1) = 1; lose(1) = 5; personOf(1, 8) = 2; pass(31) = 1; personOf(1, 9) = 1; "
            + "pay(1, 100) = 3");
        s.calls("personOf(1, 5) = 105; lend(1, 1) = 1; pass(31) = 1; personOf(1, 9) = 2; personOf(1, 8) = 2; "
            + "personOf(0, 5) = 0");
        s.calls("personOf(0, 8) = 0; personOf(0, 9) = 0; lend(0, 2) = 101; personOf(0, 7) = 0; personOf(0, 6) = -4; "
            + "giveBack(0) = 0");
        s.calls("lend(0, 0) = 0; wish(0, 1) = 1; personOf(0, 6) = 1; wish(0, 2) = 1; personOf(0, 6) = 2; personOf(0, 7) = -4");
    }

    private static void are(int person, int[] answers) {
        for (int what = 0; what < answers.length; what++) {
            s.calls("personOf(" + person + ", " + what + ") = " + answers[what]);
        }
    }
}
