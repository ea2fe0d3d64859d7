/** Promises 15 to 19 and 21 to 23: personOf, lockerOf, waitingAt, count, feeIn, lentBits, overdueBits, undo. */
public final class TellingTest {
    private static final Due due = new Due("TellingTest");

    public static void main(String[] args) {
        personOf();
        lockerOf();
        waitingAt();
        count();
        feeIn();
        feeInBeyondTheLastDay();
        lentBits();
        overdueBits();
        undo();
        undoRestoresAll();
        whatIsAChange();
        due.end();
    }

    private static void personOf() {
        due.part("promise 15");
        LockerChains x = Halls.with(2, 0);
        int[] fresh = {-4, -4, -4, -4, 0, 0, -4, -4, 0, 0};
        for (int what = 0; what < 10; what++) {
            due.is("personOf(0, " + what + ")", x.personOf(0, what), fresh[what]);
            due.is("personOf(2, " + what + ")", x.personOf(2, what), -1);
        }
        due.is("personOf(0, -1)", x.personOf(0, -1), -1);
        due.is("personOf(0, 10)", x.personOf(0, 10), -1);
        due.is("personOf(-1, 0)", x.personOf(-1, 0), -1);
        x.lend(0, 0);
        x.wish(0, 2);
        x.lose(0);
        x.renew(0);
        x.lend(1, 1);
        x.pass(23);
        x.pay(0, 2);
        int[] then = {0, 20, 1, 3, 6, 2, 2, -4, 1, 0};
        int[] other = {-4, -4, -4, -4, 0, 0, -4, 0, 0, 0};
        for (int what = 0; what < 10; what++) {
            due.is("personOf(0, " + what + ")", x.personOf(0, what), then[what]);
            due.is("personOf(1, " + what + ")", x.personOf(1, what), other[what]);
        }
    }

    private static void lockerOf() {
        due.part("promise 16");
        LockerChains x = Halls.with(1, 2);
        due.is("lockerOf(0, -1)", x.lockerOf(0, -1), -1);
        due.is("lockerOf(0, 7)", x.lockerOf(0, 7), -1);
        due.is("lockerOf(1, 0)", x.lockerOf(1, 0), -1);
        due.is("lockerOf(-1, 0)", x.lockerOf(-1, 0), -1);
        int[] fresh = {2, 1, -4, 1, 1, -4, 0};
        for (int what = 0; what < 7; what++) {
            due.is("lockerOf(0, " + what + ")", x.lockerOf(0, what), fresh[what]);
        }
        x.lend(0, 2);
        x.lose(0);
        int[] lent = {2, 1, 0, 0, 0, -4, 1};
        for (int what = 0; what < 7; what++) {
            due.is("lockerOf(0, " + what + ")", x.lockerOf(0, what), lent[what]);
        }
        x.lose(0);
        int[] closed = {2, 1, -4, 0, 1, 3, 1};
        for (int what = 0; what < 7; what++) {
            due.is("lockerOf(0, " + what + ")", x.lockerOf(0, what), closed[what]);
        }
    }

    private static void waitingAt() {
        due.part("promise 17");
        LockerChains x = Halls.with(3);
        due.is("waitingAt(0, 0)", x.waitingAt(0, 0), -4);
        x.lend(2, 3);
        x.lend(0, 1);
        due.is("waitingAt(-1, 0)", x.waitingAt(-1, 0), -1);
        due.is("waitingAt(0, -1)", x.waitingAt(0, -1), -1);
        due.is("waitingAt(0, 2)", x.waitingAt(0, 2), -1);
        due.is("waitingAt(9, 2)", x.waitingAt(9, 2), -1);
        due.is("waitingAt(0, 0)", x.waitingAt(0, 0), 2);
        due.is("waitingAt(0, 1)", x.waitingAt(0, 1), 3);
        due.is("waitingAt(1, 0)", x.waitingAt(1, 0), 0);
        due.is("waitingAt(1, 1)", x.waitingAt(1, 1), 1);
        due.is("waitingAt(2, 0)", x.waitingAt(2, 0), -4);
        due.is("waitingAt(MAX, 1)", x.waitingAt(Integer.MAX_VALUE, 1), -4);
    }

    private static void count() {
        due.part("promise 18");
        LockerChains x = Halls.with(5, 0, 1, 1, 2);
        x.locker(2);
        due.is("count(-1)", x.count(-1), -1);
        due.is("count(14)", x.count(14), -1);
        due.is("count(19)", x.count(19), -1);
        due.is("count(23)", x.count(23), -1);
        due.is("count(MIN)", x.count(Integer.MIN_VALUE), -1);
        x.lend(0, 0);
        x.lend(1, 1);
        x.lend(2, 2);
        x.lose(2);
        x.lose(2);
        x.lend(3, 0);
        x.wish(0, 1);
        x.swap();
        x.wish(1, 2);
        x.pass(2);
        x.pay(2, 7);
        Halls.type(x, "swap");
        int[] want = {5, 5, 2, 0, 3, 1, 1, 1, 23, 7, 30, 1, 4, 4};
        for (int what = 0; what < want.length; what++) {
            due.is("count(" + what + ")", x.count(what), want[what]);
        }
    }

    private static void feeIn() {
        due.part("promise 19");
        LockerChains x = Halls.with(3, 1);
        due.is("feeIn(3, 1)", x.feeIn(3, 1), -1);
        due.is("feeIn(-1, 1)", x.feeIn(-1, 1), -1);
        due.is("feeIn(0, 0)", x.feeIn(0, 0), -1);
        due.is("feeIn(0, 100)", x.feeIn(0, 100), -1);
        due.is("feeIn(0, 99)", x.feeIn(0, 99), 0);
        x.lend(0, 1);
        x.lose(0);
        x.lend(1, 3);
        int states = x.count(12);
        due.is("feeIn(0, 10)", x.feeIn(0, 10), 0);
        due.is("feeIn(0, 11)", x.feeIn(0, 11), 2);
        due.is("feeIn(0, 18)", x.feeIn(0, 18), 18);
        due.is("feeIn(0, 30)", x.feeIn(0, 30), 90);
        due.is("feeIn(0, 31)", x.feeIn(0, 31), 113);
        due.is("feeIn(0, 99)", x.feeIn(0, 99), 113);
        due.is("who waits now", x.feeIn(1, 41), 0);
        due.is("who waits now", x.feeIn(1, 42), 2);
        due.is("nothing is changed", x.count(2), 0);
        due.is("nothing is changed", x.count(8), 5);
        due.is("no state more", x.count(12), states);
    }

    private static void feeInBeyondTheLastDay() {
        due.part("promise 19, beyond day 5000");
        LockerChains x = Halls.with(1, 0);
        for (int i = 0; i < 50; i++) {
            x.pass(99);
        }
        x.pass(50);
        x.lend(0, 0);
        due.is("due", x.personOf(0, 1), 5010);
        due.is("feeIn(0, 11)", x.feeIn(0, 11), 1);
        due.is("feeIn(0, 99)", x.feeIn(0, 99), 64);
    }

    private static void lentBits() {
        due.part("promise 21");
        LockerChains x = new LockerChains();
        x.locker(0);
        due.is("no row", x.lentBits(), -4);
        for (int all = 1; all <= 12; all++) {
            x = new LockerChains();
            for (int i = 0; i < all; i++) {
                x.stand(x.locker(i % 3), i % 3);
            }
            due.is("none of " + all, x.lentBits(), 0);
            for (int lent = 1; lent <= all && lent <= 10; lent++) {
                x.lend(x.person(), 3);
                due.is(lent + " of " + all, x.lentBits(), Double.doubleToRawLongBits((double) lent / (double) all));
            }
        }
        x = Halls.with(1, 0, 0);
        x.locker(0);
        x.lend(0, 0);
        x.lose(0);
        x.lose(0);
        due.is("with a closed one", x.lentBits(), Double.doubleToRawLongBits(0.5));
    }

    private static void overdueBits() {
        due.part("promise 22");
        LockerChains x = Halls.with(3, 0, 0, 0);
        due.is("no loan", x.overdueBits(), -4);
        x.lend(0, 0);
        due.is("none overdue", x.overdueBits(), 0);
        for (int day = 1; day <= 10; day++) {
            x.pass(1);
        }
        x.set(0, 15);
        x.lend(1, 0);
        x.set(0, 19);
        x.lend(2, 0);
        for (int day = 1; day <= 20; day++) {
            x.pass(1);
            int days = day + Math.max(0, day - 15) + Math.max(0, day - 19);
            due.is("day " + day, x.overdueBits(), Float.floatToRawIntBits((float) days / 3f));
        }
        x.pass(1);
        due.is("one opened", x.overdueBits(), Float.floatToRawIntBits(8f / 2f));
    }

    private static void undo() {
        due.part("promise 23");
        LockerChains x = new LockerChains();
        due.is("undo()", x.undo(), -2);
        for (int i = 0; i < 6; i++) {
            x.person();
            due.is("count(12)", x.count(12), Math.min(4, i + 1));
        }
        for (int i = 3; i >= 0; i--) {
            due.is("undo()", x.undo(), i);
            due.is("count(1)", x.count(1), 2 + i);
        }
        due.is("undo()", x.undo(), -2);
        due.is("count(1)", x.count(1), 2);
        due.is("person()", x.person(), 2);
        due.is("undo()", x.undo(), 0);
        for (int i = 0; i < 13; i++) {
            x.pass(1);
            if (i % 3 == 2) {
                x.undo();
            }
        }
        due.is("count(2)", x.count(2), 9);
        due.is("count(12)", x.count(12), 4);
    }

    // A new object for each, so that none has more calls than are promised.
    private static LockerChains full() {
        LockerChains x = Halls.with(3, 0, 1);
        x.lend(0, 0);
        x.lend(1, 1);
        x.lend(2, 0);
        x.wish(0, 1);
        x.wish(1, 0);
        x.lose(0);
        return x;
    }

    private static void undoRestoresAll() {
        due.part("promise 23, all but the text");
        String before = seen(full());
        for (int i = 0; i < 6; i++) {
            LockerChains x = full();
            change(x, i);
            x.type('a');
            x.undo();
            due.is("change " + i, seen(x).equals(before) ? 1 : 0, 1);
            due.is("text", x.count(13), 1);
        }
    }

    private static void change(LockerChains x, int which) {
        switch (which) {
            case 0:
                x.swap();
                break;
            case 1:
                x.lose(0);
                break;
            case 2:
                x.pass(40);
                break;
            case 3:
                x.set(0, 1);
                x.undo();
                x.set(1, 1);
                x.undo();
                x.set(2, 1);
                break;
            case 4:
                x.pay(0, 3);
                break;
            default:
                x.stand(x.locker(0), 0);
                x.undo();
                break;
        }
    }

    private static String seen(LockerChains x) {
        StringBuilder all = new StringBuilder();
        for (int what = 0; what < 23; what++) {
            if (what != 12 && what != 13) {
                all.append(x.count(what)).append(' ');
            }
        }
        for (int i = 0; i < 12; i++) {
            for (int what = 0; what < 10; what++) {
                all.append(x.personOf(i, what)).append(' ').append(x.lockerOf(i, what)).append(' ');
                all.append(x.waitingAt(i, what)).append(' ');
            }
        }
        return all.toString();
    }

    private static void whatIsAChange() {
        due.part("changes");
        LockerChains x = Halls.with(3, 0, 1);
        for (int i = 0; i < 4; i++) {
            x.undo();
        }
        due.is("people left", x.count(1), 0);
        due.is("person()", x.person(), 0);
        due.is("lend(0, 4)", x.lend(0, 4), -1);
        due.is("pay(0, 1)", x.pay(0, 1), -2);
        due.is("stand(0, 0)", x.stand(0, 0), -2);
        due.is("set(0, 0)", x.set(0, 0), -1);
        due.is("noWish(0)", x.noWish(0), -2);
        due.is("count(12)", x.count(12), 1);
        x.swap();
        due.is("swap() of nobody", x.count(12), 2);
        x.set(0, 10);
        due.is("set() to what it was", x.count(12), 3);
        x.play();
        due.is("play() of nothing", x.count(12), 4);
        x.feeIn(0, 1);
        x.wouldHave(0);
        x.fault(0);
        x.type(32);
        x.clearText();
        due.is("undo()", x.undo(), 3);
        due.is("undo()", x.undo(), 2);
        due.is("undo()", x.undo(), 1);
        due.is("count(1)", x.count(1), 1);
        due.is("undo()", x.undo(), 0);
        due.is("count(1)", x.count(1), 0);
    }
}
