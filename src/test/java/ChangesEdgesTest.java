/** Boundary cases of "Changes and errors", of the constants and of promises 18 and 23. */
public final class ChangesEdgesTest {
    private static final Sentences s = new Sentences("ChangesEdgesTest");
    // Three people: one with a locker of the small size, debt and a wish, one with a middle one, and one who waits.
    private static final String SOME = "lend(0, 0) = 0; lend(1, 1) = 1; lend(2, 3) = 101; lose(0) = 5; wish(0, 1) = 1; "
        + "wish(1, 2) = 2";

    public static void main(String[] args) {
        theChanges();
        whatIsNoChange();
        historyOfFour();
        everythingBeforeIt();
        nothingOfTheText();
        invalidFirst();
        notPossibleAheadOfLimit();
        errorsChangeNothing();
        noSuchNumber();
        countsOutOfRange();
        counts();
        countsOfCoins();
        undo();
        undoAndAnotherChange();
        constants();
        s.end();
    }

    private static void some() {
        s.hall(3, 0, 1);
        s.calls(SOME);
    }

    private static void theChanges() {
        s.of("Changes and errors", "The changes are the calls of locker, person, stand, lend, giveBack, renew, lose, wish, "
            + "noWish, swap, pay, pass, set and play that return no error.");
        s.changes("locker(0) = 0; person() = 0; stand(0, 0) = 1; lend(0, 0) = 0; renew(0) = 20; wish(0, 2) = 1; noWish(0) = 2");
        s.changes("giveBack(0) = 0; lend(0, 1) = 101; giveBack(0) = 0; lend(0, 3) = 0; lose(0) = 5; pay(0, 2) = 3; "
            + "wish(0, 1) = 1");
        s.changes("swap() = 0; locker(1) = 1; stand(1, 1) = 1; swap() = 1; lose(0) = 8; lose(0) = 33; pass(3) = 0; "
            + "pass(99) = 1");
        s.changes("set(0, 60) = 10; set(1, 0) = 2; set(2, 0) = 15; play() = 0");
        s.types("pass 1;");
        s.changes("play() = 1; play() = 1");
        // Each of them as the first state of the history, and as one of many.
        String[] calls = {"locker(2) = 2", "person() = 3", "giveBack(0) = 0", "giveBack(2) = 0", "lose(1) = 5", "lose(0) = 30",
            "wish(0, 2) = 2",
            "noWish(1) = 2", "swap() = 0", "pay(0, 5) = 0", "pass(31) = 2", "set(0, 5) = 10", "play() = 0"};
        for (String call : calls) {
            some();
            s.changes(call);
        }
    }

    private static void whatIsNoChange() {
        s.of("Changes and errors", "The changes are the calls of");
        some();
        s.types("swap;");
        s.changesNothing("personOf(0, 0) = 0; lockerOf(0, 0) = 0; waitingAt(0, 0) = 2; count(0) = 2; feeIn(0, 31) = 64; "
            + "wouldHave(0) = 0");
        s.changesNothing("lentBits(); overdueBits() = 0; fault(0) = -4; fault(1) = -4; fault(2) = -4");
        s.calls("count(12) = 4; type(115) = 6; count(12) = 4; clearText() = 6; count(12) = 4; clearText() = 0; "
            + "count(12) = 4; undo() = 3");
        s.calls("type(115) = 1; clearText() = 1; undo() = 2; type(115) = 1; fault(0) = 0; undo() = 1; undo() = 0; undo() = -2");
    }

    private static void historyOfFour() {
        s.of("Changes and errors", "A history of at most 4 states is kept: each change records everything before it but the "
            + "text, and if there are 5 states then, the oldest one is dropped.");
        for (int changes = 0; changes <= 9; changes++) {
            s.hall(0);
            for (int i = 1; i <= changes; i++) {
                s.calls("person() = " + (i - 1), "count(12) = " + Math.min(i, 4));
            }
            int kept = Math.min(changes, 4);
            for (int i = 1; i <= kept; i++) {
                s.calls("undo() = " + (kept - i), "count(1) = " + (changes - i), "count(12) = " + (kept - i));
            }
            s.changesNothing("undo() = -2");
            s.calls("count(1) = " + (changes - kept));
        }
    }

    private static void everythingBeforeIt() {
        s.of("Changes and errors", "each change records everything before it but the text");
        some();
        s.calls("pass(13); pay(0, 4)", "set(1, 3) = 2");
        s.changes("pass(18) = 2; pass(99) = 1; set(0, 1) = 10; set(1, 0) = 3; set(2, 0) = 15");
        some();
        s.changes("lose(0) = 30; pass(3) = 0; lose(1) = 5; lose(1) = 30; swap() = 0; giveBack(0)");
        // Through four undone changes and back to what there was.
        some();
        s.calls("renew(1) = -2; giveBack(2) = 0; renew(1) = 20; renew(0) = 20; pass(25); lose(1) = 15; pay(0, 9)",
            "set(0, 44) = 10");
        s.calls("count(2) = 25; undo() = 3; count(20) = 10; undo() = 2; personOf(0, 4) = 10; personOf(0, 5) = 0; "
            + "count(9) = 0; undo() = 1");
        s.calls("lockerOf(1, 4) = 1; personOf(1, 8) = 0; personOf(1, 4) = 10; undo() = 0; count(2) = 0; personOf(0, 4) = 5; "
            + "count(10) = 5");
        s.calls("personOf(0, 2) = 1; personOf(1, 1) = 20; noWish(1) = 2; noWish(0) = 1; undo() = 1; personOf(0, 6) = 1; "
            + "personOf(1, 6) = -4");
    }

    private static void nothingOfTheText() {
        s.of("Promise 23: undo", "Restores the latest state of the history, which is removed from it.");
        s.calls("type(120) = 1; person() = 0; type(121) = 2; undo() = 0; count(13) = 2; count(1) = 0; fault(0) = 0; "
            + "clearText() = 2");
        s.types("swap;");
        s.calls("play() = 1; clearText() = 5; undo() = 0; count(13) = 0; type(59) = 1; person() = 0; clearText() = 1; "
            + "undo() = 0; count(13) = 0");
    }

    private static void invalidFirst() {
        s.of("Changes and errors", "If several errors apply to a call, INVALID_ARGUMENT is returned rather than "
            + "NOT_POSSIBLE, NOT_POSSIBLE rather than LIMIT_REACHED, and LIMIT_REACHED rather than NOT_FOUND.");
        s.hall(2, 0, 0, 0, 0, 1);
        s.calls("lend(0, 0) = 0; lend(1, 1) = 4");
        // Each is refused for another reason, too, if the argument that is out of range is put right.
        s.changesNothing("stand(0, 3) = -1; stand(9, 0) = -1; lend(0, 4) = -1; lend(2, 0) = -1; wish(0, 3) = -1; "
            + "wish(2, 0) = -1");
        s.changesNothing("pay(0, 0) = -1; pay(0, 1000) = -1; pay(2, 1) = -1; personOf(2, 6) = -1; personOf(0, 10) = -1; "
            + "lockerOf(9, 5) = -1");
        s.changesNothing("lockerOf(0, 7) = -1; waitingAt(-1, 0) = -1; waitingAt(0, 2) = -1; fault(3) = -1; "
            + "feeIn(2, 0) = -1; wouldHave(2) = -1");
        s.calls("7 x locker(2)", "8 x person()");
        s.changesNothing("locker(3) = -1; locker(2) = -3; person() = -3");
        s.calls("50 x pass(99)", "80 x type(59)");
        s.changesNothing("pass(100) = -1; pass(0) = -1; pass(99) = -3; type(31) = -1; type(127) = -1; type(59) = -3");
    }

    private static void notPossibleAheadOfLimit() {
        s.of("Changes and errors", "NOT_POSSIBLE rather than LIMIT_REACHED");
        // In a full row already, or of another size than the full row takes.
        s.hall(0, 1, 1, 1, 1, 0);
        s.calls("locker(0) = 5; locker(1) = 6");
        s.changesNothing("stand(0, 1) = -2; stand(3, 1) = -2; stand(5, 1) = -2; stand(4, 1) = -2; stand(6, 1) = -3");
        // Renewed as often as it can be, and overdue, waited for, or given back.
        s.hall(2, 0);
        s.calls("set(1, 0); lend(0, 0) = 0; renew(0) = -3; lend(1, 0) = 101");
        s.changesNothing("renew(0) = -2");
        s.calls("giveBack(1) = 0; renew(0) = -3; pass(11)");
        s.changesNothing("renew(0) = -2");
        s.calls("giveBack(0) = 1");
        s.changesNothing("renew(0) = -2");
    }

    private static void errorsChangeNothing() {
        s.of("Changes and errors", "A call that returns an error changes nothing.");
        some();
        s.changesNothing("locker(3) = -1; stand(0, 0) = -2; stand(2, 0) = -1; lend(0, 1) = -2; lend(2, 0) = -2; "
            + "lend(0, 5) = -1; lend(4, 0) = -1");
        s.changesNothing("giveBack(3) = -1; renew(0) = -2; renew(2) = -2; renew(-1) = -1; lose(2) = -2; lose(3) = -1; "
            + "wish(0, 0) = -2; wish(1, 1) = -2");
        s.changesNothing("wish(2, 0) = -2; wish(0, 3) = -1; noWish(2) = -2; noWish(3) = -1; pay(0, 6) = -2; pay(1, 1) = -2; "
            + "pay(0, 0) = -1");
        s.changesNothing("pass(0) = -1; pass(100) = -1; set(0, 0) = -1; set(3, 0) = -1; set(1, 6) = -1; set(2, 100) = -1; "
            + "type(31) = -1");
        s.types("pass 5;back 0;lose 1;lose 1;lose 1;back 0;");
        s.changesNothing("play() = -2; fault(0) = 28; fault(3) = -1");
        s.calls("clearText(); giveBack(2) = 0");
        s.changesNothing("giveBack(2) = -2; lose(2) = -2; noWish(2) = -2; wish(2, 1) = -2; renew(2) = -2");
        s.hall(10);
        s.changesNothing("person() = -3");
    }

    private static void noSuchNumber() {
        s.of("Changes and errors", "If there is no locker or person with a certain number, this is INVALID_ARGUMENT.");
        String[] ofPeople = {"lend(#, 0)", "lend(#, 3)", "giveBack(#)", "renew(#)", "lose(#)", "wish(#, 0)", "noWish(#)",
            "pay(#, 1)", "personOf(#, 0)",
            "personOf(#, 4)", "personOf(#, 6)", "personOf(#, 7)", "feeIn(#, 1)", "wouldHave(#)"};
        String[] ofLockers = {"stand(#, 0)", "stand(#, 1)", "lockerOf(#, 0)", "lockerOf(#, 1)", "lockerOf(#, 2)",
            "lockerOf(#, 5)", "lockerOf(#, 6)"};
        String[] numbers = {"-1", "-2", "MIN", "MAX", "10", "12", "13"};
        for (int there = 0; there <= 2; there++) {
            s.hall(0);
            for (int i = 0; i < there; i++) {
                s.calls("person() = " + i, "locker(0) = " + i, "stand(" + i + ", 0)");
            }
            for (String call : ofPeople) {
                s.changesNothing(call.replace("#", "" + there) + " = -1");
            }
            for (String call : ofLockers) {
                s.changesNothing(call.replace("#", "" + there) + " = -1");
            }
        }
        s.hall(2, 0, 0);
        for (String number : numbers) {
            for (String call : ofPeople) {
                s.changesNothing(call.replace("#", number) + " = -1");
            }
            for (String call : ofLockers) {
                s.changesNothing(call.replace("#", number) + " = -1");
            }
        }
        // A number that was there until the change was undone.
        s.hall(0);
        s.calls("locker(0) = 0; person() = 0; personOf(0, 4) = 0; undo() = 1; personOf(0, 4) = -1; undo() = 0; "
            + "lockerOf(0, 0) = -1; lend(0, 0) = -1");
    }

    private static void countsOutOfRange() {
        s.of("Promise 18: count", "Returns the number; INVALID_ARGUMENT if what is out of range.");
        some();
        s.changesNothing("count(-1) = -1; count(14) = -1; count(15) = -1; count(16) = -1; count(17) = -1; count(18) = -1; "
            + "count(19) = -1; count(23) = -1");
        s.changesNothing("count(24) = -1; count(MIN) = -1; count(MAX) = -1; count(-2147483628) = -1; count(-20) = -1");
        s.calls("count(0) = 2; count(13) = 0; count(20) = 10; count(22) = 15");
    }

    private static void counts() {
        s.of("Promise 18: count", "0: lockers; 1: people; 2: the day; 3: free lockers; 4: lent ones; 5: closed ones; 6: "
            + "people who wait; 7: wishes");
        s.hall(5, 0, 1, 1, 2);
        are(4, 5, 0, 4, 0, 0, 0, 0);
        s.calls("locker(2) = 4; lend(0, 0) = 0; lend(1, 1) = 1; lend(2, 2) = 3");
        are(5, 5, 0, 1, 3, 0, 0, 0);
        s.calls("lend(3, 0) = 101; wish(0, 2) = 1; wish(1, 0) = 2; pass(2)");
        are(5, 5, 2, 1, 3, 0, 1, 2);
        s.calls("2 x lose(2)");
        are(5, 5, 2, 1, 2, 1, 2, 2);
        s.calls("lend(4, 3) = 2; stand(4, 2) = 2; personOf(2, 0) = 4");
        are(5, 5, 2, 0, 4, 1, 1, 2);
        s.calls("pass(3); locker(1)", "lockerOf(3, 3) = 1; swap() = 1; personOf(3, 0) = 0");
        are(6, 5, 5, 0, 5, 0, 0, 1);
        s.calls("pass(99) = 5");
        are(6, 5, 104, 5, 0, 0, 0, 0);
    }

    private static void are(int... numbers) {
        for (int what = 0; what < numbers.length; what++) {
            s.calls("count(" + what + ") = " + numbers[what]);
        }
    }

    private static void countsOfCoins() {
        s.of("Promise 18: count", "8: what all people owe; 9: what was paid so far; 10: what was owed anew so far (fees of "
            + "days, keys, locks, openings); 11: people who moved by swaps so far");
        s.hall(2, 0, 1);
        s.calls("lend(0, 0) = 0; lend(1, 1) = 1; pass(11); count(8) = 3; count(9) = 0; count(10) = 3; pay(0, 1) = 0; "
            + "pay(1, 1) = 1");
        s.calls("count(8) = 1; count(9) = 2; count(10) = 3; lose(0) = 5; count(10) = 8; lose(0) = 30; count(8) = 31; "
            + "count(10) = 33; count(9) = 2");
        s.calls("pay(0, 30) = 0; count(8) = 1; count(9) = 32; count(10) = 33; pass(20) = 1; personOf(1, 4) = 112; "
            + "count(10) = 151; count(9) = 32");
        // Of that, 7 are from person 0, whose new loan from day 14 on is overdue from day 25 on.
        s.calls("personOf(0, 4) = 7; count(8) = 119; count(11) = 0; wish(0, 1) = 1; swap() = 1; count(11) = 1; "
            + "wish(0, 0) = 1; wouldHave(0) = 0");
        s.calls("count(11) = 1; swap() = 1; count(11) = 2; undo() = 3; count(11) = 1; count(8) = 119; feeIn(0, 99) = 99; "
            + "count(10) = 151");
    }

    private static void undo() {
        s.of("Promise 23: undo", "Returns the number of states that are left in the history; NOT_POSSIBLE if it is empty.");
        s.changesNothing("undo() = -2");
        s.calls("locker(0) = 0; undo() = 0");
        s.changesNothing("undo() = -2");
        s.calls("4 x person(); count(12) = 4; undo() = 3; undo() = 2; undo() = 1; undo() = 0");
        s.changesNothing("undo() = -2");
        s.calls("count(1) = 0; 7 x person(); undo() = 3; undo() = 2; undo() = 1; undo() = 0; count(1) = 3");
        s.changesNothing("undo() = -2");
    }

    private static void undoAndAnotherChange() {
        s.of("Promise 23: undo", "Restores the latest state of the history, which is removed from it.");
        s.calls("pass(1); pass(2); pass(3); undo() = 2; count(2) = 3; pass(40); undo() = 2; count(2) = 3; undo() = 1; "
            + "count(2) = 1; pass(50)");
        s.calls("pass(60); pass(70); pass(80); count(2) = 261; undo() = 3; count(2) = 181; pass(9); count(12) = 4; "
            + "undo() = 3; count(2) = 181");
        s.calls("undo() = 2; count(2) = 111; undo() = 1; count(2) = 51; undo() = 0; count(2) = 1; undo() = -2; count(2) = 1");
        // Twenty changes with one undone behind each third of them.
        s.hall(0);
        int day = 0;
        for (int i = 1; i <= 20; i++) {
            s.calls("pass(" + i + ")");
            day += i;
            if (i % 3 == 0) {
                s.calls("undo()");
                day -= i;
            }
            s.calls("count(2) = " + day);
        }
        s.calls("count(12) = 4; undo() = 3", "count(2) = " + (day - 20), "undo() = 2", "count(2) = " + (day - 39));
    }

    private static void constants() {
        s.of("Changes and errors", "`INVALID_ARGUMENT = -1`: An argument is out of its range, or there is no such locker or "
            + "person.");
        s.calls("locker(3) = " + LockerChains.INVALID_ARGUMENT, "lend(0, 0) = " + LockerChains.INVALID_ARGUMENT,
            "count(14) = -1");
        s.of("Changes and errors", "`NOT_POSSIBLE = -2`: The call is not possible in the present state.");
        s.calls("undo() = " + LockerChains.NOT_POSSIBLE, "undo() = -2");
        s.of("Changes and errors", "`LIMIT_REACHED = -3`: A fixed limit has been reached.");
        s.hall(10);
        s.calls("person() = " + LockerChains.LIMIT_REACHED, "person() = -3");
        s.of("Changes and errors", "`NOT_FOUND = -4`: There is no such value.");
        s.calls("lentBits() = " + LockerChains.NOT_FOUND, "overdueBits() = -4");
    }
}
