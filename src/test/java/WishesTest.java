/** Promises 9 to 11 and 20: wish, noWish, swap, wouldHave. */
public final class WishesTest {
    private static final Due due = new Due("WishesTest");

    public static void main(String[] args) {
        wish();
        noWish();
        nobodyMoves();
        moveToFree();
        firstWishFirst();
        chain();
        oldLockerToWhoWaits();
        freeAheadOfRing();
        ringOfTwo();
        ringOfThree();
        ringWithTheLowest();
        ringOfThreeAhead();
        wouldHave();
        due.end();
    }

    private static void wish() {
        due.part("promise 9");
        LockerChains x = Halls.with(3, 0, 1);
        due.is("no locker", x.wish(0, 0), -2);
        due.is("wish(3, 0)", x.wish(3, 0), -1);
        x.lend(0, 0);
        x.lend(1, 1);
        due.is("wish(0, 3)", x.wish(0, 3), -1);
        due.is("wish(0, -1)", x.wish(0, -1), -1);
        due.is("own size", x.wish(0, 0), -2);
        due.is("wish(0, 2)", x.wish(0, 2), 1);
        due.is("wish(1, 2)", x.wish(1, 2), 2);
        due.is("own size, with a wish", x.wish(0, 0), -2);
        due.is("in place of the old one", x.wish(0, 1), 2);
        due.is("wish", x.personOf(0, 6), 1);
        x.wish(0, 2);
        x.stand(x.locker(2), 2);
        due.is("swap()", x.swap(), 1);
        due.is("the earlier one", x.personOf(1, 0), 2);
        due.is("the latest one stays", x.personOf(0, 6), 2);
    }

    private static void noWish() {
        due.part("promise 10");
        LockerChains x = Halls.with(2, 0, 1);
        x.lend(0, 0);
        x.lend(1, 1);
        due.is("noWish(0)", x.noWish(0), -2);
        due.is("noWish(2)", x.noWish(2), -1);
        due.is("noWish(-1)", x.noWish(-1), -1);
        x.wish(0, 2);
        x.wish(1, 0);
        due.is("noWish(0)", x.noWish(0), 2);
        due.is("noWish(0)", x.noWish(0), -2);
        due.is("count(7)", x.count(7), 1);
        due.is("noWish(1)", x.noWish(1), 0);
    }

    private static void nobodyMoves() {
        due.part("promise 11, nobody");
        LockerChains x = Halls.with(2, 0, 1, 1);
        x.lend(0, 0);
        x.lend(1, 1);
        x.wish(0, 2);
        due.is("swap()", x.swap(), 0);
        due.is("count(11)", x.count(11), 0);
    }

    private static void moveToFree() {
        due.part("promise 11, free ones");
        LockerChains x = Halls.with(2, 0, 1, 1);
        x.lend(0, 0);
        x.renew(0);
        x.wish(0, 1);
        x.pass(3);
        due.is("swap()", x.swap(), 1);
        due.is("the lowest", x.personOf(0, 0), 1);
        due.is("due as it was", x.personOf(0, 1), 20);
        due.is("renewed as it was", x.personOf(0, 2), 1);
        due.is("wish", x.personOf(0, 6), -4);
        due.is("old one", x.lockerOf(0, 3), 1);
        due.is("old one, who", x.lockerOf(0, 2), -4);
        due.is("lent", x.lockerOf(1, 6), 1);
        due.is("lent, old one", x.lockerOf(0, 6), 1);
        due.is("who", x.lockerOf(1, 2), 0);
        due.is("count(11)", x.count(11), 1);
    }

    private static void firstWishFirst() {
        due.part("promise 11, the first wish");
        LockerChains x = Halls.with(3, 0, 0, 0, 1);
        for (int i = 0; i < 3; i++) {
            x.lend(i, 0);
        }
        x.wish(0, 2);
        x.wish(2, 1);
        x.wish(1, 1);
        due.is("swap()", x.swap(), 1);
        due.is("personOf(2, 0)", x.personOf(2, 0), 3);
        due.is("personOf(1, 0)", x.personOf(1, 0), 1);
    }

    private static void chain() {
        due.part("promise 11, a chain");
        LockerChains x = Halls.with(3, 0, 1, 2, 2);
        x.lend(0, 0);
        x.lend(1, 1);
        x.wish(0, 1);
        x.wish(1, 2);
        due.is("swap()", x.swap(), 2);
        due.is("personOf(1, 0)", x.personOf(1, 0), 2);
        due.is("personOf(0, 0)", x.personOf(0, 0), 1);
        due.is("free", x.lockerOf(0, 3), 1);
    }

    private static void oldLockerToWhoWaits() {
        due.part("promise 11, who waits");
        LockerChains x = Halls.with(4, 0, 1);
        x.lend(0, 0);
        x.lend(1, 1);
        x.lend(2, 0);
        x.lend(3, 2);
        x.wish(0, 2);
        x.wish(1, 0);
        int large = x.locker(2);
        x.giveBack(3);
        x.stand(large, 2);
        x.pass(2);
        due.is("swap()", x.swap(), 1);
        due.is("personOf(0, 0)", x.personOf(0, 0), 2);
        due.is("personOf(2, 0)", x.personOf(2, 0), 0);
        due.is("personOf(2, 1)", x.personOf(2, 1), 12);
        due.is("personOf(1, 0)", x.personOf(1, 0), 1);
        due.is("count(7)", x.count(7), 1);
        due.is("count(11)", x.count(11), 1);
        due.is("lent", x.lockerOf(0, 6), 2);
    }

    private static void freeAheadOfRing() {
        due.part("promise 11, a free one ahead of a ring");
        LockerChains x = Halls.with(2, 0, 1, 1);
        x.lend(0, 0);
        x.lend(1, 1);
        x.wish(0, 1);
        x.wish(1, 0);
        due.is("swap()", x.swap(), 2);
        due.is("personOf(0, 0)", x.personOf(0, 0), 2);
        due.is("personOf(1, 0)", x.personOf(1, 0), 0);
        due.is("free", x.lockerOf(1, 3), 1);
    }

    private static void ringOfTwo() {
        due.part("promise 11, two");
        LockerChains x = Halls.with(2, 0, 1);
        x.lend(0, 0);
        x.pass(1);
        x.lend(1, 1);
        x.wish(1, 0);
        due.is("swap()", x.swap(), 0);
        x.wish(0, 1);
        due.is("swap()", x.swap(), 2);
        due.is("personOf(0, 0)", x.personOf(0, 0), 1);
        due.is("personOf(1, 0)", x.personOf(1, 0), 0);
        due.is("due goes along", x.personOf(0, 1), 10);
        due.is("due goes along", x.personOf(1, 1), 11);
        due.is("who", x.lockerOf(0, 2), 1);
        due.is("lent", x.lockerOf(0, 6), 2);
        due.is("count(7)", x.count(7), 0);
        due.is("count(11)", x.count(11), 2);
    }

    private static void ringOfThree() {
        due.part("promise 11, three");
        LockerChains x = Halls.with(3, 0, 1, 2);
        for (int i = 0; i < 3; i++) {
            x.lend(i, i);
        }
        x.wish(0, 2);
        x.wish(2, 1);
        x.wish(1, 0);
        due.is("swap()", x.swap(), 3);
        due.is("personOf(0, 0)", x.personOf(0, 0), 2);
        due.is("personOf(2, 0)", x.personOf(2, 0), 1);
        due.is("personOf(1, 0)", x.personOf(1, 0), 0);
        due.is("count(7)", x.count(7), 0);
    }

    private static void ringWithTheLowest() {
        due.part("promise 11, the lowest");
        LockerChains x = Halls.with(4, 0, 1, 1, 1);
        x.lend(3, 0);
        x.lend(2, 1);
        x.lend(1, 1);
        x.lend(0, 1);
        x.wish(2, 0);
        x.wish(1, 0);
        x.wish(3, 1);
        due.is("swap()", x.swap(), 2);
        due.is("personOf(1, 0)", x.personOf(1, 0), 0);
        due.is("personOf(3, 0)", x.personOf(3, 0), 2);
        due.is("personOf(2, 6)", x.personOf(2, 6), 0);
    }

    private static void ringOfThreeAhead() {
        due.part("promise 11, the lowest second one");
        // 0 (small) wishes for middle; 1 (middle) for large, 2 (large) for small; 3 (middle) for small.
        LockerChains x = Halls.with(4, 0, 1, 2, 1);
        x.lend(0, 0);
        x.lend(1, 1);
        x.lend(2, 2);
        x.lend(3, 1);
        x.wish(3, 0);
        x.wish(2, 0);
        x.wish(1, 2);
        x.wish(0, 1);
        due.is("swap()", x.swap(), 3);
        due.is("personOf(0, 0)", x.personOf(0, 0), 1);
        due.is("personOf(1, 0)", x.personOf(1, 0), 2);
        due.is("personOf(2, 0)", x.personOf(2, 0), 0);
        due.is("personOf(3, 0)", x.personOf(3, 0), 3);
        // The same with 1 and 3 in each other's place: now the ring of two has the lowest second one.
        x = Halls.with(4, 0, 1, 2, 1);
        x.lend(0, 0);
        x.lend(3, 1);
        x.lend(2, 2);
        x.lend(1, 1);
        x.wish(1, 0);
        x.wish(2, 0);
        x.wish(3, 2);
        x.wish(0, 1);
        due.is("swap()", x.swap(), 2);
        due.is("personOf(0, 0)", x.personOf(0, 0), 3);
        due.is("personOf(1, 0)", x.personOf(1, 0), 0);
        // Of two third ones, the lowest, though its wish came later.
        x = Halls.with(4, 0, 1, 2, 2);
        x.lend(0, 0);
        x.lend(1, 1);
        x.lend(2, 2);
        x.lend(3, 2);
        x.wish(3, 0);
        x.wish(2, 0);
        x.wish(1, 2);
        x.wish(0, 1);
        due.is("swap()", x.swap(), 3);
        due.is("personOf(2, 0)", x.personOf(2, 0), 0);
        due.is("personOf(3, 0)", x.personOf(3, 0), 3);
    }

    private static void wouldHave() {
        due.part("promise 20");
        LockerChains x = Halls.with(4, 0, 1, 2);
        x.lend(0, 0);
        x.lend(1, 1);
        x.lend(2, 0);
        x.wish(0, 2);
        int states = x.count(12);
        due.is("wouldHave(4)", x.wouldHave(4), -1);
        due.is("wouldHave(-1)", x.wouldHave(-1), -1);
        due.is("wouldHave(0)", x.wouldHave(0), 2);
        due.is("wouldHave(1)", x.wouldHave(1), 1);
        due.is("who waits", x.wouldHave(2), 0);
        due.is("none", x.wouldHave(3), -4);
        due.is("nothing is changed", x.personOf(0, 0), 0);
        due.is("nothing is changed", x.personOf(2, 0), -4);
        due.is("no state more", x.count(12), states);
    }
}
