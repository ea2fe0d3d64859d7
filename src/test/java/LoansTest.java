/** Promises 5 to 8 and 12 to 14: lend, giveBack, renew, lose, pay, pass, set. */
public final class LoansTest {
    private static final Due due = new Due("LoansTest");

    public static void main(String[] args) {
        lend();
        lendWithDebt();
        giveBack();
        renew();
        renewLimits();
        lose();
        lockIsChanged();
        pay();
        fees();
        opening();
        passLimits();
        closedLockersOpenByNumber();
        closedLockersAheadOfPeople();
        set();
        due.end();
    }

    private static void lend() {
        due.part("promise 5");
        LockerChains x = Halls.with(5, 1, 0, 1);
        due.is("lend(5, 0)", x.lend(5, 0), -1);
        due.is("lend(-1, 0)", x.lend(-1, 0), -1);
        due.is("lend(0, 4)", x.lend(0, 4), -1);
        due.is("lend(0, -1)", x.lend(0, -1), -1);
        due.is("lend(0, 3)", x.lend(0, 3), 0);
        due.is("lend(0, 3)", x.lend(0, 3), -2);
        due.is("lend(0, 4)", x.lend(0, 4), -1);
        due.is("lend(1, 1)", x.lend(1, 1), 2);
        due.is("lend(2, 1)", x.lend(2, 1), 101);
        due.is("lend(2, 0)", x.lend(2, 0), -2);
        due.is("lend(3, 2)", x.lend(3, 2), 102);
        due.is("lend(4, 3)", x.lend(4, 3), 1);
        due.is("due", x.personOf(4, 1), 10);
        due.is("renewed", x.personOf(4, 2), 0);
        due.is("lent", x.lockerOf(1, 6), 1);
        due.is("who", x.lockerOf(1, 2), 4);
    }

    private static void lendWithDebt() {
        due.part("promise 5, debt");
        LockerChains x = Halls.with(1, 0);
        x.lend(0, 0);
        for (int i = 0; i < 6; i++) {
            x.set(0, 10);
            x.pass(i == 0 ? 1 : 3);
            x.lose(0);
        }
        // Three keys with a spare one and three locks: 3 * 5 + 3 * 25.
        due.is("owes", x.personOf(0, 4), 90);
        x.pass(3);
        due.is("given back", x.giveBack(0), 0);
        due.is("lend(0, 0)", x.lend(0, 0), -2);
        x.pay(0, 59);
        due.is("owes 31", x.lend(0, 0), -2);
        x.pay(0, 1);
        due.is("owes 30", x.lend(0, 0), 0);
    }

    private static void giveBack() {
        due.part("promise 6");
        LockerChains x = Halls.with(4, 0);
        due.is("giveBack(0)", x.giveBack(0), -2);
        due.is("giveBack(4)", x.giveBack(4), -1);
        due.is("giveBack(-1)", x.giveBack(-1), -1);
        x.lend(0, 0);
        x.lend(1, 1);
        x.lend(2, 0);
        x.lend(3, 3);
        x.wish(0, 1);
        x.pass(13);
        due.is("giveBack(1), who waits", x.giveBack(1), 0);
        due.is("count(6)", x.count(6), 2);
        due.is("giveBack(0)", x.giveBack(0), 3);
        due.is("wish ended", x.count(7), 0);
        due.is("to who waits", x.personOf(2, 0), 0);
        due.is("due", x.personOf(2, 1), 23);
        due.is("the other waits", x.personOf(3, 7), 0);
        due.is("giveBack(0)", x.giveBack(0), -2);
        x.pass(10);
        due.is("giveBack(2), on the day", x.giveBack(2), 0);
        due.is("to who waits", x.personOf(3, 0), 0);
        due.is("giveBack(3)", x.giveBack(3), 0);
        due.is("free", x.lockerOf(0, 3), 1);
    }

    private static void renew() {
        due.part("promise 7");
        LockerChains x = Halls.with(4, 0, 1);
        due.is("renew(4)", x.renew(4), -1);
        due.is("renew(0)", x.renew(0), -2);
        x.lend(0, 0);
        x.lend(1, 1);
        due.is("renew(0)", x.renew(0), 20);
        x.lend(2, 0);
        due.is("waited for", x.renew(0), -2);
        due.is("other size", x.renew(1), 20);
        x.lend(3, 3);
        due.is("any is waited for", x.renew(1), -2);
        x.giveBack(3);
        x.set(0, 7);
        due.is("by the setting now", x.renew(1), 27);
        due.is("times", x.personOf(1, 2), 2);
        due.is("too often", x.renew(1), -3);
    }

    private static void renewLimits() {
        due.part("promise 7, limits");
        LockerChains x = Halls.with(2, 0, 0);
        x.lend(0, 0);
        x.pass(10);
        due.is("on the day", x.renew(0), 20);
        x.pass(11);
        due.is("overdue", x.renew(0), -2);
        due.is("days", x.personOf(0, 3), 1);
        x.set(1, 0);
        x.lend(1, 0);
        due.is("never", x.renew(1), -3);
        x.set(1, 5);
        for (int i = 1; i <= 5; i++) {
            due.is("renew", x.renew(1), 31 + 10 * i);
        }
        due.is("6th", x.renew(1), -3);
        x.set(1, 3);
        due.is("fewer now", x.renew(1), -3);
    }

    private static void lose() {
        due.part("promise 8");
        LockerChains x = Halls.with(3, 0, 0, 1);
        due.is("lose(3)", x.lose(3), -1);
        due.is("lose(0)", x.lose(0), -2);
        x.lend(0, 0);
        due.is("lose(0)", x.lose(0), 5);
        due.is("spare key", x.lockerOf(0, 4), 0);
        due.is("still had", x.personOf(0, 0), 0);
        due.is("keys lost", x.personOf(0, 8), 1);
        x.wish(0, 1);
        x.renew(0);
        x.pass(2);
        due.is("lose(0)", x.lose(0), 30);
        due.is("spare key", x.lockerOf(0, 4), 1);
        due.is("closed", x.lockerOf(0, 5), 5);
        due.is("count(5)", x.count(5), 1);
        due.is("the lowest free one", x.personOf(0, 0), 1);
        due.is("due", x.personOf(0, 1), 12);
        due.is("renewed", x.personOf(0, 2), 0);
        due.is("wish", x.personOf(0, 6), -4);
        due.is("keys lost", x.personOf(0, 8), 2);
        due.is("lent", x.lockerOf(1, 6), 1);
        due.is("owed anew", x.count(10), 30);
    }

    private static void lockIsChanged() {
        due.part("promise 8, who waits");
        LockerChains x = Halls.with(3, 2);
        x.lend(0, 2);
        x.lend(1, 3);
        x.lend(2, 0);
        x.lose(0);
        due.is("lose(0)", x.lose(0), 30);
        due.is("waits as the last", x.personOf(0, 7), 2);
        due.is("for its size", x.waitingAt(2, 1), 2);
        due.is("free", x.count(3), 0);
        due.is("pass(2)", x.pass(2), 0);
        due.is("closed still", x.lockerOf(0, 5), 3);
        due.is("pass(1)", x.pass(1), 0);
        due.is("open again", x.lockerOf(0, 5), -4);
        due.is("to who came first", x.personOf(1, 0), 0);
        due.is("waits still", x.personOf(0, 7), 1);
        due.is("due", x.personOf(1, 1), 13);
    }

    private static void pay() {
        due.part("promise 12");
        LockerChains x = Halls.with(2, 0);
        x.lend(0, 0);
        x.lose(0);
        due.is("pay(2, 1)", x.pay(2, 1), -1);
        due.is("pay(0, 0)", x.pay(0, 0), -1);
        due.is("pay(0, 1000)", x.pay(0, 1000), -1);
        due.is("pay(0, 999)", x.pay(0, 999), -2);
        due.is("pay(0, 6)", x.pay(0, 6), -2);
        due.is("pay(1, 1)", x.pay(1, 1), -2);
        due.is("pay(0, 2)", x.pay(0, 2), 3);
        due.is("paid", x.personOf(0, 5), 2);
        due.is("owes", x.personOf(0, 4), 3);
        due.is("count(8)", x.count(8), 3);
        due.is("count(9)", x.count(9), 2);
        due.is("count(10)", x.count(10), 5);
        due.is("pay(0, 3)", x.pay(0, 3), 0);
    }

    private static void fees() {
        due.part("promise 13, fees");
        int owed = 0;
        LockerChains x = Halls.with(3, 0, 1, 2);
        for (int size = 0; size < 3; size++) {
            x.lend(size, size);
        }
        x.pass(10);
        due.is("on the day", x.count(8), 0);
        for (int day = 1; day <= 20; day++) {
            owed += day <= 7 ? 1 : day <= 14 ? 2 : 4;
            due.is("pass(1)", x.pass(1), 0);
            for (int size = 0; size < 3; size++) {
                due.is("owes on day " + day, x.personOf(size, 4), owed * (size + 1));
                due.is("days overdue", x.personOf(size, 3), day);
            }
        }
        due.is("pass(1)", x.pass(1), 3);
        for (int size = 0; size < 3; size++) {
            due.is("owes in the end", x.personOf(size, 4), 49 * (size + 1) + 15);
            due.is("locker", x.personOf(size, 0), -4);
            due.is("opened", x.personOf(size, 9), 1);
        }
        due.is("pass(99)", x.pass(99), 0);
        due.is("count(8)", x.count(8), 49 * 6 + 45);
    }

    private static void opening() {
        due.part("promise 13, opening");
        LockerChains x = Halls.with(3, 1);
        x.set(2, 99);
        x.lend(0, 1);
        x.lend(1, 3);
        x.lose(0);
        x.wish(0, 0);
        due.is("pass(30)", x.pass(30), 0);
        due.is("pass(1)", x.pass(1), 1);
        due.is("owes", x.personOf(0, 4), 5 + 98 + 99);
        due.is("wishes", x.count(7), 0);
        due.is("to who waits", x.personOf(1, 0), 0);
        due.is("due", x.personOf(1, 1), 41);
        due.is("keys stay", x.lockerOf(0, 4), 0);
        due.is("not closed", x.lockerOf(0, 5), -4);
        due.is("lent", x.lockerOf(0, 6), 2);
        x.set(2, 0);
        due.is("pass(31)", x.pass(31), 1);
        due.is("owes", x.personOf(1, 4), 98);
        due.is("free", x.lockerOf(0, 3), 1);
    }

    private static void passLimits() {
        due.part("promise 13, limits");
        LockerChains x = new LockerChains();
        due.is("pass(0)", x.pass(0), -1);
        due.is("pass(100)", x.pass(100), -1);
        due.is("pass(-1)", x.pass(-1), -1);
        for (int i = 0; i < 50; i++) {
            due.is("pass(99)", x.pass(99), 0);
        }
        due.is("day", x.count(2), 4950);
        due.is("pass(51)", x.pass(51), -3);
        due.is("pass(100)", x.pass(100), -1);
        due.is("pass(50)", x.pass(50), 0);
        due.is("pass(1)", x.pass(1), -3);
        due.is("day", x.count(2), 5000);
    }

    private static void closedLockersOpenByNumber() {
        due.part("promise 13, closed ones");
        LockerChains x = Halls.with(4, 0, 0);
        x.lend(0, 0);
        x.lend(1, 0);
        x.lose(1);
        x.lose(1);
        x.lose(0);
        x.lose(0);
        due.is("first waits", x.waitingAt(0, 0), 1);
        due.is("second waits", x.waitingAt(1, 0), 0);
        x.pass(3);
        due.is("personOf(1, 0)", x.personOf(1, 0), 0);
        due.is("personOf(0, 0)", x.personOf(0, 0), 1);
        due.is("count(5)", x.count(5), 0);
    }

    private static void closedLockersAheadOfPeople() {
        due.part("promise 13, closed ones ahead of people");
        LockerChains x = Halls.with(4, 0, 0);
        x.lend(0, 0);
        x.lend(1, 0);
        x.lend(2, 0);
        x.lend(3, 0);
        x.pass(28);
        x.lose(1);
        x.lose(1);
        due.is("open again", x.lockerOf(1, 5), 31);
        due.is("pass(3)", x.pass(3), 1);
        due.is("personOf(2, 0)", x.personOf(2, 0), 1);
        due.is("personOf(3, 0)", x.personOf(3, 0), 0);
        due.is("personOf(1, 7)", x.personOf(1, 7), 0);
        due.is("count(3)", x.count(3), 0);
    }

    private static void set() {
        due.part("promise 14");
        LockerChains x = Halls.with(2, 0, 0);
        x.lend(0, 0);
        due.is("set(-1, 1)", x.set(-1, 1), -1);
        due.is("set(3, 1)", x.set(3, 1), -1);
        due.is("set(0, 0)", x.set(0, 0), -1);
        due.is("set(0, 61)", x.set(0, 61), -1);
        due.is("set(1, -1)", x.set(1, -1), -1);
        due.is("set(1, 6)", x.set(1, 6), -1);
        due.is("set(2, -1)", x.set(2, -1), -1);
        due.is("set(2, 100)", x.set(2, 100), -1);
        due.is("set(0, 60)", x.set(0, 60), 10);
        due.is("set(0, 1)", x.set(0, 1), 60);
        due.is("set(1, 5)", x.set(1, 5), 2);
        due.is("set(1, 0)", x.set(1, 0), 5);
        due.is("set(2, 99)", x.set(2, 99), 15);
        due.is("set(2, 0)", x.set(2, 0), 99);
        due.is("stays due", x.personOf(0, 1), 10);
        x.lend(1, 0);
        due.is("due", x.personOf(1, 1), 1);
        due.is("count(20)", x.count(20), 1);
        due.is("count(21)", x.count(21), 0);
        due.is("count(22)", x.count(22), 0);
    }
}
