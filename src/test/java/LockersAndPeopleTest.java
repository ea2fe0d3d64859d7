/** Promises 1 to 4: a new object, locker, person, stand. */
public final class LockersAndPeopleTest {
    private static final Due due = new Due("LockersAndPeopleTest");

    public static void main(String[] args) {
        newObject();
        locker();
        person();
        stand();
        standGivesToWhoWaits();
        due.end();
    }

    private static void newObject() {
        due.part("promise 1");
        LockerChains x = new LockerChains();
        for (int what = 0; what <= 13; what++) {
            due.is("count(" + what + ")", x.count(what), 0);
        }
        due.is("count(20)", x.count(20), 10);
        due.is("count(21)", x.count(21), 2);
        due.is("count(22)", x.count(22), 15);
        due.is("undo()", x.undo(), -2);
        due.is("lockerOf(0, 0)", x.lockerOf(0, 0), -1);
        due.is("personOf(0, 4)", x.personOf(0, 4), -1);
        due.is("waitingAt(0, 0)", x.waitingAt(0, 0), -4);
        due.is("fault(0)", x.fault(0), -4);
    }

    private static void locker() {
        due.part("promise 2");
        LockerChains x = new LockerChains();
        due.is("locker(-1)", x.locker(-1), -1);
        due.is("locker(3)", x.locker(3), -1);
        due.is("locker(MIN)", x.locker(Integer.MIN_VALUE), -1);
        due.is("count(12)", x.count(12), 0);
        for (int i = 0; i < 12; i++) {
            due.is("locker", x.locker(i % 3), i);
            due.is("its size", x.lockerOf(i, 0), i % 3);
            due.is("in a row", x.lockerOf(i, 1), 0);
            due.is("who has it", x.lockerOf(i, 2), -4);
            due.is("free", x.lockerOf(i, 3), 0);
            due.is("spare key", x.lockerOf(i, 4), 1);
            due.is("open again", x.lockerOf(i, 5), -4);
            due.is("times lent", x.lockerOf(i, 6), 0);
        }
        due.is("locker(0)", x.locker(0), -3);
        due.is("locker(3)", x.locker(3), -1);
        due.is("count(0)", x.count(0), 12);
    }

    private static void person() {
        due.part("promise 3");
        LockerChains x = new LockerChains();
        for (int i = 0; i < 10; i++) {
            due.is("person()", x.person(), i);
            due.is("owes", x.personOf(i, 4), 0);
        }
        due.is("person()", x.person(), -3);
        due.is("count(1)", x.count(1), 10);
    }

    private static void stand() {
        due.part("promise 4");
        LockerChains x = new LockerChains();
        for (int i = 0; i < 5; i++) {
            x.locker(0);
        }
        x.locker(2);
        due.is("stand(6, 0)", x.stand(6, 0), -1);
        due.is("stand(-1, 0)", x.stand(-1, 0), -1);
        due.is("stand(0, 3)", x.stand(0, 3), -1);
        due.is("stand(0, -1)", x.stand(0, -1), -1);
        due.is("stand(0, 1)", x.stand(0, 1), -2);
        for (int i = 0; i < 4; i++) {
            due.is("stand", x.stand(i, 0), i + 1);
            due.is("free", x.lockerOf(i, 3), 1);
            due.is("again", x.stand(i, 0), -2);
        }
        due.is("again in another row", x.stand(0, 1), -2);
        due.is("stand(4, 0)", x.stand(4, 0), -3);
        due.is("stand(4, 2)", x.stand(4, 2), -2);
        due.is("stand(4, 3)", x.stand(4, 3), -1);
        due.is("stand(5, 2)", x.stand(5, 2), 1);
        due.is("count(3)", x.count(3), 5);
    }

    private static void standGivesToWhoWaits() {
        due.part("promise 4, to who waits");
        LockerChains x = new LockerChains();
        x.locker(1);
        x.locker(0);
        for (int i = 0; i < 3; i++) {
            x.person();
        }
        due.is("lend(0, 0)", x.lend(0, 0), 101);
        due.is("lend(1, 3)", x.lend(1, 3), 102);
        due.is("lend(2, 1)", x.lend(2, 1), 103);
        x.pass(4);
        due.is("stand(0, 1)", x.stand(0, 1), 1);
        due.is("personOf(1, 0)", x.personOf(1, 0), 0);
        due.is("personOf(1, 1)", x.personOf(1, 1), 14);
        due.is("personOf(1, 7)", x.personOf(1, 7), -4);
        due.is("personOf(2, 7)", x.personOf(2, 7), 1);
        due.is("lockerOf(0, 3)", x.lockerOf(0, 3), 0);
        due.is("lockerOf(0, 6)", x.lockerOf(0, 6), 1);
        due.is("stand(1, 0)", x.stand(1, 0), 1);
        due.is("personOf(0, 0)", x.personOf(0, 0), 1);
        due.is("count(6)", x.count(6), 1);
    }
}
