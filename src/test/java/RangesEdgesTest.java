/** Each argument's range, as promises 2 to 26 tell it: its ends are taken, and what is beyond them is refused. */
public final class RangesEdgesTest {
    private static final Sentences s = new Sentences("RangesEdgesTest");
    private static final String OF_PERSON = "`person`: number of the person";
    private static final String OF_LOCKER = "`locker`: number of the locker";

    public static void main(String[] args) {
        people();
        lockers();
        sizesAndRows();
        coinsAndDays();
        settings();
        whats();
        countsWhat();
        indexes();
        characters();
        s.end();
    }

    /** Three people and two lockers; person 0 has locker 0, person 2 waits. */
    private static void hall() {
        s.hall(3, 0, 1);
        s.calls("lend(0, 0) = 0; lend(2, 2) = 101");
    }

    /** The call, with the argument in place of #, for what is of the range and what is not. */
    private static void range(String heading, String words, String call, int lowest, int highest) {
        s.of(heading, words);
        for (int value = lowest; value <= highest; value++) {
            hall();
            s.taken(call.replace("#", "" + value));
        }
        hall();
        beyond(call, "" + (lowest - 1), "" + (highest + 1), "MIN", "MAX");
    }

    private static void beyond(String call, String... values) {
        for (String value : values) {
            s.changesNothing(call.replace("#", value) + " = -1");
        }
    }

    private static void people() {
        range("Promise 5: lend", OF_PERSON, "lend(#, 0)", 0, 2);
        range("Promise 6: giveBack", OF_PERSON, "giveBack(#)", 0, 2);
        range("Promise 7: renew", OF_PERSON, "renew(#)", 0, 2);
        range("Promise 8: lose", OF_PERSON, "lose(#)", 0, 2);
        range("Promise 9: wish", OF_PERSON, "wish(#, 1)", 0, 2);
        range("Promise 10: noWish", OF_PERSON, "noWish(#)", 0, 2);
        range("Promise 12: pay", OF_PERSON, "pay(#, 1)", 0, 2);
        range("Promise 15: personOf", OF_PERSON, "personOf(#, 4)", 0, 2);
        range("Promise 19: feeIn", OF_PERSON, "feeIn(#, 1)", 0, 2);
        range("Promise 20: wouldHave", OF_PERSON, "wouldHave(#)", 0, 2);
    }

    private static void lockers() {
        range("Promise 4: stand", OF_LOCKER, "stand(#, 0)", 0, 1);
        range("Promise 16: lockerOf", OF_LOCKER, "lockerOf(#, 0)", 0, 1);
    }

    private static void sizesAndRows() {
        range("Promise 2: locker", "`size`: 0 to 2", "locker(#)", 0, 2);
        range("Promise 4: stand", "`row`: 0 to 2", "stand(0, #)", 0, 2);
        range("Promise 5: lend", "`size`: 0 to 2, or 3 for any", "lend(1, #)", 0, 3);
        range("Promise 9: wish", "`size`: 0 to 2", "wish(0, #)", 0, 2);
    }

    private static void coinsAndDays() {
        range("Promise 12: pay", "`coins`: 1 to 999", "pay(0, #)", 1, 999);
        range("Promise 13: pass", "`days`: 1 to 99", "pass(#)", 1, 99);
        range("Promise 19: feeIn", "`days`: 1 to 99", "feeIn(0, #)", 1, 99);
    }

    private static void settings() {
        range("Promise 14: set", "`what`: 0 to 2", "set(#, 1)", 0, 2);
        range("Promise 14: set", "`value`: a value in its range", "set(0, #)", 1, 60);
        range("Promise 14: set", "`value`: a value in its range", "set(1, #)", 0, 5);
        range("Promise 14: set", "`value`: a value in its range", "set(2, #)", 0, 99);
    }

    private static void whats() {
        range("Promise 15: personOf", "9: lockers of the person that were opened so far", "personOf(0, #)", 0, 9);
        range("Promise 16: lockerOf", "6: how often it was lent so far, also by swaps", "lockerOf(0, #)", 0, 6);
        range("Promise 17: waitingAt", "0: the number of the person; 1: the size, 3 for any", "waitingAt(0, #)", 0, 1);
        range("Promise 26: fault", "0: its position; 1: its reason; 2: its cause", "fault(#)", 0, 2);
    }

    private static void countsWhat() {
        range("Promise 18: count", "12: states in the history; 13: the length of the text", "count(#)", 0, 13);
        range("Promise 18: count", "20 to 22: the settings 0 to 2", "count(#)", 20, 22);
        for (int what = 14; what <= 19; what++) {
            beyond("count(#)", "" + what);
        }
        s.hall(1);
        s.calls("count(12) = 1; person() = 1; count(12) = 2; undo() = 1; count(12) = 1; type(32) = 1; count(13) = 1; "
            + "clearText() = 1");
        s.calls("count(13) = 0; set(0, 7) = 10; set(1, 5) = 2; set(2, 0) = 15; count(20) = 7; count(21) = 5; count(22) = 0");
    }

    private static void indexes() {
        s.of("Promise 17: waitingAt", "`index`: 0 for the one who came first, and so on");
        hall();
        beyond("waitingAt(#, 0)", "-1", "-2", "MIN");
        s.calls("lend(1, 2) = 102; waitingAt(0, 0) = 2; waitingAt(1, 0) = 1; waitingAt(2, 0) = -4; waitingAt(MAX, 0) = -4");
    }

    private static void characters() {
        range("Promise 24: type", "`character`: 32 to 126", "type(#)", 32, 126);
    }
}
