/** Halls that tests begin with, and texts typed at once. */
final class Halls {
    private Halls() {
    }

    /** Lockers of these sizes, each in its row, and so many people. */
    static LockerChains with(int people, int... sizes) {
        LockerChains x = new LockerChains();
        for (int size : sizes) {
            x.stand(x.locker(size), size);
        }
        for (int i = 0; i < people; i++) {
            x.person();
        }
        return x;
    }

    static LockerChains type(LockerChains x, String text) {
        x.clearText();
        for (char sign : text.toCharArray()) {
            x.type(sign);
        }
        return x;
    }
}
