/** Boundary cases of "Wishes and swaps" and promises 9 to 11 and 20. */
public final class SwapsEdgesTest {
    private static final Sentences s = new Sentences("SwapsEdgesTest");

    public static void main(String[] args) {
        anotherSize();
        orderOfWishes();
        wishesEndWithLoans();
        wishesEndWithLockers();
        againAndAgain();
        firstWishOfThese();
        lowestSuchLocker();
        onlyFreeOnes();
        freeOnesAheadOfRings();
        ringsOfTwoAndThree();
        noRing();
        lowestPersonFirst();
        lowestSecond();
        lowestToldFirst();
        lowestThird();
        twoAheadOfThree();
        allAtOnce();
        over();
        loansGoAlong();
        keysDoNotGoAlong();
        wish();
        wishInPlaceOfOld();
        noWish();
        swapAnswers();
        wouldHave();
        wouldHaveOfEach();
        s.end();
    }

    private static void anotherSize() {
        s.of("Wishes and swaps", "A person with a locker can have a wish: a size, another one than that of the own locker.");
        for (int own = 0; own < 3; own++) {
            for (int size = 0; size < 3; size++) {
                s.hall(2, own);
                s.calls("lend(0, " + own + ") = 0; lend(1, 3) = 101");
                if (size == own) {
                    s.changesNothing("wish(0, " + size + ") = -2");
                } else {
                    s.changes("wish(0, " + size + ") = 1");
                }
                s.changesNothing("wish(1, " + size + ") = -2");
            }
        }
    }

    private static void orderOfWishes() {
        s.of("Wishes and swaps", "The wishes are in the order in which they came");
        s.hall(4, 0, 0, 0, 0);
        for (int i = 0; i < 4; i++) {
            s.calls("lend(" + i + ", 0) = " + i);
        }
        s.calls("wish(2, 1) = 1; wish(0, 1) = 2; wish(3, 1) = 3; wish(1, 1) = 4");
        s.calls("locker(1) = 4; stand(4, 1) = 1; swap() = 1; personOf(2, 0) = 4; locker(1) = 5; stand(5, 1) = 2; swap() = 1");
        s.calls("personOf(0, 0) = 5; locker(1) = 6; stand(6, 1) = 3; swap() = 1; personOf(3, 0) = 6; personOf(1, 0) = 1");
    }

    private static void wishesEndWithLoans() {
        s.of("Wishes and swaps", "one ends when the loan ends or the person has a locker of that size.");
        s.hall(2, 0, 0);
        s.calls("lend(0, 0) = 0; wish(0, 2) = 1; giveBack(0) = 0; count(7) = 0; noWish(0) = -2; lend(0, 0) = 0; "
            + "personOf(0, 6) = -4");
        s.calls("locker(2) = 2; stand(2, 2) = 1; swap() = 0; personOf(0, 0) = 0");
        // The 21st day overdue.
        s.hall(2, 0, 0);
        s.calls("lend(0, 0) = 0; wish(0, 2) = 1; pass(30); count(7) = 1; pass(1) = 1; count(7) = 0; personOf(0, 6) = -4; "
            + "noWish(0) = -2");
        // A lock that is changed, whether there is another locker of the size or not.
        s.hall(2, 0, 0);
        s.calls("lend(0, 0) = 0; wish(0, 2) = 1; lose(0) = 5; count(7) = 1; lose(0) = 30; personOf(0, 0) = 1; count(7) = 0");
        s.calls("noWish(0) = -2; wish(0, 1) = 1; lose(0) = 35; lose(0) = 60; personOf(0, 0) = -4; count(7) = 0; pass(3)");
        s.calls("personOf(0, 0) = 0; personOf(0, 6) = -4");
    }

    private static void wishesEndWithLockers() {
        s.of("Wishes and swaps", "one ends when the loan ends or the person has a locker of that size.");
        s.hall(2, 0, 1);
        s.calls("lend(0, 0) = 0; wish(0, 1) = 1; swap() = 1; personOf(0, 6) = -4; count(7) = 0; noWish(0) = -2; swap() = 0");
        s.calls("lend(1, 0) = 0; wish(0, 0) = 1; wish(1, 1) = 2; swap() = 2; count(7) = 0; personOf(0, 6) = -4; "
            + "personOf(1, 6) = -4");
        s.calls("swap() = 0; personOf(0, 0) = 0; personOf(1, 0) = 1");
    }

    private static void againAndAgain() {
        s.of("Wishes and swaps", "To swap means, again and again:");
        // A chain: the later wishes make way for the earlier ones, up to a free one of the first size.
        s.hall(3, 0, 1, 2, 2);
        s.calls("lend(0, 0) = 0; lend(1, 1) = 1; lend(2, 2) = 2; wish(0, 1) = 1; wish(1, 2) = 2; wish(2, 0) = 3; swap() = 3");
        s.calls("personOf(0, 0) = 1; personOf(1, 0) = 3; personOf(2, 0) = 0; lockerOf(2, 3) = 1; count(3) = 1; count(7) = 0");
        // What becomes free goes to the first wish again, not to the next one.
        s.hall(3, 0, 0, 1, 2);
        s.calls("lend(0, 0) = 0; lend(1, 0) = 1; lend(2, 1) = 2; wish(1, 1) = 1; wish(2, 2) = 2; wish(0, 1) = 3; swap() = 2");
        s.calls("personOf(2, 0) = 3; personOf(1, 0) = 2; personOf(0, 0) = 0; personOf(0, 6) = 1; lockerOf(1, 3) = 1");
        // Two rings, one behind the other.
        s.hall(4, 0, 1, 0, 1);
        s.calls("lend(0, 0) = 0; lend(1, 1) = 1; lend(2, 0) = 2; lend(3, 1) = 3; wish(3, 0) = 1; wish(2, 1) = 2; "
            + "wish(1, 0) = 3");
        s.calls("wish(0, 1) = 4; swap() = 4; personOf(0, 0) = 1; personOf(1, 0) = 0; personOf(2, 0) = 3; personOf(3, 0) = 2");
        // A move to a free one, and a ring of the others behind it.
        s.hall(3, 0, 1, 2, 1);
        s.calls("lend(0, 0) = 0; lend(1, 1) = 1; lend(2, 2) = 2; wish(0, 1) = 1; wish(1, 2) = 2; wish(2, 1) = 3; swap() = 3");
        s.calls("personOf(0, 0) = 3; personOf(1, 0) = 2; personOf(2, 0) = 1; lockerOf(0, 3) = 1; count(7) = 0");
    }

    private static void firstWishOfThese() {
        s.of("Wishes and swaps", "If there is a free locker for which someone wishes by its size: the one whose wish came "
            + "first of these moves to the lowest such locker");
        s.hall(3, 0, 0, 0, 1);
        s.calls("lend(0, 0) = 0; lend(1, 0) = 1; lend(2, 0) = 2; wish(2, 1) = 1; wish(0, 1) = 2; wish(1, 1) = 3; swap() = 1");
        s.calls("personOf(2, 0) = 3; personOf(0, 0) = 0; personOf(1, 0) = 1; count(7) = 2");
        // An earlier wish for a size without a free one is none of these.
        s.hall(2, 0, 0, 1);
        s.calls("lend(0, 0) = 0; lend(1, 0) = 1; wish(1, 2) = 1; wish(0, 1) = 2; swap() = 1; personOf(0, 0) = 2; "
            + "personOf(1, 6) = 2");
    }

    private static void lowestSuchLocker() {
        s.of("Wishes and swaps", "moves to the lowest such locker");
        s.hall(1, 2, 1, 1, 0);
        s.calls("lend(0, 0) = 3; wish(0, 1) = 1; swap() = 1; personOf(0, 0) = 1; lockerOf(0, 3) = 1; lockerOf(2, 3) = 1");
        s.hall(2, 0, 1, 1, 1);
        s.calls("lend(1, 1) = 1; lend(0, 0) = 0; wish(0, 1) = 1; swap() = 1; personOf(0, 0) = 2; personOf(1, 0) = 1");
        // The first wish decides, though a later one wishes for a lower locker.
        s.hall(2, 1, 0, 0, 2);
        s.calls("lend(0, 0) = 1; lend(1, 0) = 2; wish(0, 2) = 1; wish(1, 1) = 2; swap() = 2; personOf(0, 0) = 3; "
            + "personOf(1, 0) = 0");
    }

    private static void onlyFreeOnes() {
        s.of("Lockers and rows", "It is free if it is in a row, is not lent, and is not closed.");
        s.hall(1, 0);
        s.calls("locker(1) = 1; lend(0, 0) = 0; wish(0, 1) = 1; swap() = 0; wouldHave(0) = 0; stand(1, 1) = 1; swap() = 1");
        s.hall(2, 0, 1);
        s.calls("lend(0, 0) = 0; lend(1, 1) = 1; 2 x lose(1)", "giveBack(1) = 0; wish(0, 1) = 1; swap() = 0; pass(2); "
            + "swap() = 0");
        s.calls("pass(1); swap() = 1; personOf(0, 0) = 1");
        // A free one of another size, or of the own one.
        s.hall(1, 0, 0, 2);
        s.calls("lend(0, 0) = 0; wish(0, 1) = 1; swap() = 0; personOf(0, 0) = 0");
    }

    private static void freeOnesAheadOfRings() {
        s.of("Wishes and swaps", "Otherwise, if there is a ring");
        s.hall(2, 0, 1, 1);
        s.calls("lend(0, 0) = 0; lend(1, 1) = 1; wish(0, 1) = 1; wish(1, 0) = 2; swap() = 2; personOf(0, 0) = 2; "
            + "personOf(1, 0) = 0");
        s.calls("lockerOf(1, 3) = 1");
        // Though the ring is of lower people and earlier wishes.
        s.hall(3, 0, 1, 0, 2);
        s.calls("lend(0, 0) = 0; lend(1, 1) = 1; lend(2, 0) = 2; wish(0, 1) = 1; wish(1, 0) = 2; wish(2, 2) = 3; swap() = 3");
        s.calls("personOf(2, 0) = 3; personOf(1, 0) = 2; personOf(0, 0) = 1; lockerOf(0, 3) = 1");
    }

    private static void ringsOfTwoAndThree() {
        s.of("Wishes and swaps", "two to three people with wishes, each of whom wishes for the size of the locker of the "
            + "next one, the last one for that of the first one");
        s.hall(2, 2, 1);
        s.calls("lend(0, 2) = 0; lend(1, 1) = 1; wish(1, 2) = 1; swap() = 0; wish(0, 1) = 2; swap() = 2; "
            + "personOf(0, 0) = 1; personOf(1, 0) = 0");
        s.hall(3, 0, 1, 2);
        s.calls("lend(0, 0) = 0; lend(1, 1) = 1; lend(2, 2) = 2; wish(0, 1) = 1; wish(1, 2) = 2; swap() = 0; "
            + "wish(2, 0) = 3; swap() = 3");
        s.calls("personOf(0, 0) = 1; personOf(1, 0) = 2; personOf(2, 0) = 0; count(7) = 0");
        s.hall(3, 0, 1, 2);
        s.calls("lend(0, 0) = 0; lend(1, 1) = 1; lend(2, 2) = 2; wish(0, 2) = 1; wish(2, 1) = 2; swap() = 0; "
            + "wish(1, 0) = 3; swap() = 3");
        s.calls("personOf(0, 0) = 2; personOf(2, 0) = 1; personOf(1, 0) = 0; count(7) = 0; count(11) = 3");
    }

    private static void noRing() {
        s.of("Wishes and swaps", "two to three people with wishes");
        // The locker of one without a wish would be the one that is wished for.
        s.hall(2, 0, 1);
        s.calls("lend(0, 0) = 0; lend(1, 1) = 1; wish(0, 1) = 1; swap() = 0; wish(1, 2) = 2; swap() = 0; wish(1, 0) = 2; "
            + "noWish(0) = 1");
        s.calls("swap() = 0; personOf(0, 0) = 0; personOf(1, 0) = 1");
        s.hall(3, 0, 1, 1);
        s.calls("lend(0, 0) = 0; lend(1, 1) = 1; lend(2, 1) = 2; wish(1, 0) = 1; wish(2, 0) = 2; swap() = 0; "
            + "wish(0, 2) = 3; swap() = 0");
        s.hall(3, 0, 1, 2);
        s.calls("lend(0, 0) = 0; lend(1, 1) = 1; lend(2, 2) = 2; wish(0, 1) = 1; wish(1, 2) = 2; wish(2, 1) = 3; "
            + "noWish(2) = 1; swap() = 0");
    }

    private static void lowestPersonFirst() {
        s.of("Wishes and swaps", "the ring with the person with the lowest number first");
        // 3 is in a ring with each of 0 and 2; 0 and 2 are not in one together.
        s.hall(4, 0, 1, 1);
        s.calls("lend(3, 0) = 0; lend(2, 1) = 1; lend(0, 1) = 2; wish(3, 1) = 1; wish(2, 0) = 2; wish(0, 0) = 3; swap() = 2");
        s.calls("personOf(0, 0) = 0; personOf(3, 0) = 2; personOf(2, 0) = 1; personOf(2, 6) = 0");
        // 1 is the second one in a ring with 0, and the first one in a ring with 2.
        s.hall(3, 0, 1, 0);
        s.calls("lend(2, 0) = 0; lend(1, 1) = 1; lend(0, 0) = 2; wish(2, 1) = 1; wish(1, 0) = 2; wish(0, 1) = 3; swap() = 2");
        s.calls("personOf(0, 0) = 1; personOf(1, 0) = 2; personOf(2, 0) = 0");
    }

    private static void lowestSecond() {
        s.of("Wishes and swaps", "of several the one with the lowest second one");
        s.hall(3, 0, 1, 1);
        s.calls("lend(0, 0) = 0; lend(2, 1) = 1; lend(1, 1) = 2; wish(2, 0) = 1; wish(0, 1) = 2; wish(1, 0) = 3; swap() = 2");
        s.calls("personOf(0, 0) = 2; personOf(1, 0) = 0; personOf(2, 0) = 1");
        // Three with a lower second one are ahead of two.
        s.hall(4, 0, 1, 2, 1);
        s.calls("lend(0, 0) = 0; lend(1, 1) = 1; lend(3, 2) = 2; lend(2, 1) = 3; wish(2, 0) = 1; wish(0, 1) = 2; "
            + "wish(3, 0) = 3; wish(1, 2) = 4");
        s.calls("swap() = 3; personOf(0, 0) = 1; personOf(1, 0) = 2; personOf(3, 0) = 0; personOf(2, 0) = 3; "
            + "personOf(2, 6) = 0");
    }

    private static void lowestToldFirst() {
        s.of("Wishes and swaps", "(in it, the lowest one is told first)");
        // 0, 3, 1 and 0, 2: told from 0 on, the second one is 3 in the one and 2 in the other.
        s.hall(4, 0, 1, 2, 1);
        s.calls("lend(0, 0) = 0; lend(3, 1) = 1; lend(1, 2) = 2; lend(2, 1) = 3; wish(0, 1) = 1; wish(3, 2) = 2; "
            + "wish(1, 0) = 3; wish(2, 0) = 4");
        s.calls("swap() = 2; personOf(0, 0) = 3; personOf(2, 0) = 0; personOf(1, 0) = 2; personOf(3, 0) = 1");
        // A ring is told from its lowest one, wherever the wish that came first stands.
        s.hall(3, 0, 1, 2);
        s.calls("lend(2, 0) = 0; lend(0, 1) = 1; lend(1, 2) = 2; wish(2, 1) = 1; wish(0, 2) = 2; wish(1, 0) = 3; swap() = 3");
        s.calls("personOf(2, 0) = 1; personOf(0, 0) = 2; personOf(1, 0) = 0");
    }

    private static void lowestThird() {
        s.of("Wishes and swaps", "then the one with the lowest third one");
        s.hall(4, 0, 1, 2, 2);
        s.calls("lend(0, 0) = 0; lend(1, 1) = 1; lend(3, 2) = 2; lend(2, 2) = 3; wish(3, 0) = 1; wish(2, 0) = 2; "
            + "wish(1, 2) = 3; wish(0, 1) = 4");
        s.calls("swap() = 3; personOf(0, 0) = 1; personOf(1, 0) = 3; personOf(2, 0) = 0; personOf(3, 0) = 2; "
            + "personOf(3, 6) = 0");
        // The third one may be lower than the second one.
        s.hall(4, 0, 2, 1, 2);
        s.calls("lend(0, 0) = 0; lend(3, 2) = 1; lend(2, 1) = 2; lend(1, 2) = 3; wish(3, 0) = 1; wish(0, 1) = 2; "
            + "wish(2, 2) = 3; wish(1, 0) = 4");
        s.calls("swap() = 3; personOf(0, 0) = 2; personOf(2, 0) = 3; personOf(1, 0) = 0; personOf(3, 0) = 1");
    }

    /**
     * Two and three with the same first and second one would need a third one who wishes for the own size, so that no hall
     * can tell them apart: all sizes and wishes of four people are swapped, and compared with the model.
     */
    private static void twoAheadOfThree() {
        s.of("Wishes and swaps", "of several the one with the lowest second one, two people ahead of three, then the one "
            + "with the lowest third one");
        for (int kind = 0; kind < 9 * 9 * 9 * 9; kind++) {
            LockerChains x = new LockerChains();
            Model model = new Model();
            int rest = kind;
            for (int i = 0; i < 4; i++) {
                int size = rest % 3;
                s.is("locker", x.locker(size), model.locker(size));
                s.is("stand", x.stand(i, size), model.stand(i, size));
                s.is("person", x.person(), model.person());
                s.is("lend", x.lend(i, size), model.lend(i, size));
                s.is("wish", x.wish(i, rest / 3 % 3), model.wish(i, rest / 3 % 3));
                rest /= 9;
            }
            s.is("swap() of kind " + kind, x.swap(), model.swap());
            for (int i = 0; i < 4; i++) {
                s.is("personOf(" + i + ", 0) of kind " + kind, x.personOf(i, 0), model.personOf(i, 0));
                s.is("personOf(" + i + ", 6) of kind " + kind, x.personOf(i, 6), model.personOf(i, 6));
            }
        }
    }

    private static void allAtOnce() {
        s.of("Wishes and swaps", "they move all at once.");
        // Nobody who waits gets a locker of a ring.
        s.hall(5, 0, 1, 2);
        s.calls("lend(0, 0) = 0; lend(1, 1) = 1; lend(2, 2) = 2; lend(3, 3) = 101; lend(4, 0) = 102; wish(0, 1) = 1; "
            + "wish(1, 2) = 2; wish(2, 0) = 3");
        s.calls("swap() = 3; personOf(0, 0) = 1; personOf(1, 0) = 2; personOf(2, 0) = 0; count(6) = 2; personOf(3, 7) = 0; "
            + "personOf(4, 7) = 1");
        s.calls("lockerOf(0, 2) = 2; lockerOf(1, 2) = 0; lockerOf(2, 2) = 1; count(4) = 3; count(3) = 0; "
            + "lockerOf(0, 6) = 2; lockerOf(2, 6) = 2");
    }

    private static void over() {
        s.of("Wishes and swaps", "Otherwise it is over.");
        s.changes("swap() = 0");
        s.hall(3, 0, 1, 2);
        s.changes("swap() = 0");
        s.calls("lend(0, 0) = 0; lend(1, 1) = 1; lend(2, 2) = 2");
        s.changes("swap() = 0");
        s.calls("wish(0, 1) = 1; wish(1, 2) = 2");
        s.changes("swap() = 0");
        s.calls("personOf(0, 0) = 0; personOf(1, 0) = 1; count(7) = 2; count(11) = 0");
    }

    private static void loansGoAlong() {
        s.of("Wishes and swaps", "Loans and their days go along with people.");
        s.hall(2, 0, 1);
        s.calls("lend(0, 0) = 0; renew(0) = 20; pass(5); lend(1, 1) = 1; wish(0, 1) = 1; wish(1, 0) = 2; set(0, 60) = 10; "
            + "swap() = 2");
        s.calls("personOf(0, 1) = 20; personOf(0, 2) = 1; personOf(1, 1) = 15; personOf(1, 2) = 0; pass(11); "
            + "personOf(1, 3) = 1");
        s.calls("personOf(1, 4) = 1; pass(5); personOf(0, 3) = 1; personOf(0, 4) = 2; personOf(1, 4) = 6; personOf(1, 3) = 6");
        // Who is overdue moves, and owes the fees of the new size from then on.
        s.hall(1, 0, 2);
        s.calls("lend(0, 0) = 0; renew(0) = 20; pass(27); personOf(0, 4) = 7; wish(0, 2) = 1; swap() = 1; "
            + "personOf(0, 3) = 7; personOf(0, 2) = 1");
        s.calls("personOf(0, 1) = 20; pass(1); personOf(0, 4) = 13; pass(12) = 0; pass(1) = 1; personOf(0, 4) = 148; "
            + "lockerOf(1, 3) = 1");
    }

    private static void keysDoNotGoAlong() {
        s.of("Wishes and swaps", "Loans and their days go along with people.");
        s.hall(2, 0, 1);
        s.calls("lend(0, 0) = 0; lend(1, 1) = 1; lose(0) = 5; wish(0, 1) = 1; wish(1, 0) = 2; swap() = 2; "
            + "lockerOf(0, 4) = 0; lockerOf(1, 4) = 1");
        s.calls("lose(0) = 10; personOf(0, 0) = 1; lose(1) = 25; personOf(1, 0) = -4; lockerOf(0, 5) = 3");
    }

    private static void wish() {
        s.of("Promise 9: wish", "Returns how many wishes there are then; INVALID_ARGUMENT if an argument is out of range; "
            + "NOT_POSSIBLE if the person has no locker, or one of that size.");
        s.hall(10, 0, 0, 0, 0, 1, 1, 1, 1, 2, 2);
        s.changesNothing("wish(-1, 0) = -1; wish(10, 0) = -1; wish(MIN, 0) = -1; wish(MAX, 0) = -1; wish(0, -1) = -1; "
            + "wish(0, 3) = -1");
        s.changesNothing("wish(0, MIN) = -1; wish(0, MAX) = -1; wish(0, 0) = -2; wish(0, 1) = -2; wish(0, 2) = -2; "
            + "wish(10, 3) = -1");
        for (int i = 0; i < 10; i++) {
            int size = i < 4 ? 0 : i < 8 ? 1 : 2;
            s.calls("lend(" + i + ", " + size + ") = " + i);
            s.changesNothing("wish(" + i + ", " + size + ") = -2; wish(" + i + ", 3) = -1");
            s.calls("wish(" + i + ", " + (size + 1) % 3 + ") = " + (i + 1), "personOf(" + i + ", 6) = " + (size + 1) % 3);
        }
        // With a wish, too; and when there are as many as there can be, another one takes the place of the old one.
        s.changesNothing("wish(0, 0) = -2");
        s.changes("wish(0, 2) = 10");
        s.calls("count(7) = 10; giveBack(9) = 0; count(7) = 9");
        s.changesNothing("wish(9, 0) = -2");
    }

    private static void wishInPlaceOfOld() {
        s.of("Promise 9: wish", "in place of an old wish (as the latest one).");
        s.hall(2, 0, 0);
        s.calls("lend(0, 0) = 0; lend(1, 0) = 1; wish(0, 1) = 1; wish(1, 2) = 2; wish(0, 2) = 2; personOf(0, 6) = 2; "
            + "count(7) = 2");
        s.calls("locker(1) = 2; stand(2, 1) = 1; swap() = 0; locker(2) = 3; stand(3, 2) = 1; swap() = 1; "
            + "personOf(1, 0) = 3; personOf(0, 6) = 2");
        // The same size once more makes it the latest one, too.
        s.hall(2, 0, 0, 1);
        s.calls("lend(0, 0) = 0; lend(1, 0) = 1; wish(0, 1) = 1; wish(1, 1) = 2; wish(0, 1) = 2; swap() = 1; "
            + "personOf(1, 0) = 2");
    }

    private static void noWish() {
        s.of("Promise 10: noWish", "Returns the size; INVALID_ARGUMENT; NOT_POSSIBLE if the person has no wish.");
        s.hall(3, 0, 1, 2);
        s.changesNothing("noWish(-1) = -1; noWish(3) = -1; noWish(MIN) = -1; noWish(MAX) = -1; noWish(10) = -1; "
            + "noWish(0) = -2");
        s.calls("lend(0, 0) = 0; lend(1, 1) = 1; lend(2, 2) = 2");
        s.changesNothing("noWish(0) = -2");
        s.calls("wish(0, 2) = 1; wish(1, 0) = 2; wish(2, 1) = 3");
        s.changes("noWish(1) = 0");
        s.changesNothing("noWish(1) = -2");
        s.changes("noWish(0) = 2; noWish(2) = 1");
        s.changesNothing("noWish(2) = -2");
        s.calls("count(7) = 0; swap() = 0; wish(1, 2) = 1; personOf(1, 6) = 2");
    }

    private static void swapAnswers() {
        s.of("Promise 11: swap", "Returns how many people move.");
        int[] sizes = {0, 1, 0, 1, 0, 1, 0, 2, 1, 2};
        s.hall(10, sizes);
        for (int i = 0; i < 10; i++) {
            s.calls("lend(" + i + ", " + sizes[i] + ") = " + i);
        }
        for (int i = 0; i < 10; i++) {
            s.calls("wish(" + i + ", " + sizes[i ^ 1] + ") = " + (i + 1));
        }
        s.changes("swap() = 10");
        for (int i = 0; i < 10; i++) {
            s.calls("personOf(" + i + ", 0) = " + (i ^ 1), "lockerOf(" + i + ", 6) = 2");
        }
        s.calls("count(11) = 10; count(7) = 0");
        s.changes("swap() = 0");
        // Four who move to free ones, one behind the other.
        s.hall(4, 0, 1, 2, 0, 1);
        s.calls("lend(0, 0) = 0; lend(1, 1) = 1; lend(2, 2) = 2; lend(3, 0) = 3; wish(0, 1) = 1; wish(1, 2) = 2; "
            + "wish(2, 0) = 3; wish(3, 1) = 4");
        s.changes("swap() = 4");
        s.calls("personOf(0, 0) = 4; personOf(2, 0) = 0; personOf(1, 0) = 2; personOf(3, 0) = 1; count(11) = 4; "
            + "lockerOf(3, 3) = 1");
    }

    private static void wouldHave() {
        s.of("Promise 20: wouldHave", "Returns the number of the locker; INVALID_ARGUMENT; NOT_FOUND if none.");
        s.hall(4, 0, 1);
        s.changesNothing("wouldHave(-1) = -1; wouldHave(4) = -1; wouldHave(MIN) = -1; wouldHave(MAX) = -1; wouldHave(10) = -1");
        s.changesNothing("wouldHave(0) = -4; wouldHave(3) = -4");
        s.calls("lend(3, 0) = 0; lend(1, 3) = 1; lend(0, 3) = 101; lend(2, 0) = 102");
        s.changesNothing("wouldHave(3) = 0; wouldHave(1) = 1; wouldHave(0) = -4; wouldHave(2) = -4");
        s.calls("wish(3, 1) = 1");
        s.changesNothing("wouldHave(3) = 0; wouldHave(1) = 1");
        s.calls("wish(1, 0) = 2");
        s.changesNothing("wouldHave(3) = 1; wouldHave(1) = 0; wouldHave(0) = -4");
        s.calls("personOf(3, 0) = 0; personOf(3, 6) = 1; count(7) = 2; count(11) = 0; lockerOf(1, 6) = 1; swap() = 2; "
            + "personOf(3, 0) = 1");
    }

    private static void wouldHaveOfEach() {
        s.of("Promise 20: wouldHave", "Tells which locker a person would have behind swapping now.");
        // A chain at whose end one who waits gets the locker that is left.
        s.hall(4, 0, 1, 2);
        s.calls("lend(0, 0) = 0; lend(1, 1) = 1; lend(2, 0) = 101; wish(0, 1) = 1; wish(1, 2) = 2");
        s.changesNothing("wouldHave(0) = 1; wouldHave(1) = 2; wouldHave(2) = 0; wouldHave(3) = -4");
        s.calls("personOf(2, 7) = 0; swap() = 2; personOf(2, 0) = 0; personOf(2, 1) = 10");
    }
}
