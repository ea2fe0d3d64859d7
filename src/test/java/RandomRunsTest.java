import java.util.Random;

/** Long runs of calls, each compared with the model; the numbers are the same in every run of the test. */
public final class RandomRunsTest {
    private static final int RUNS = 1500;
    private static final int CALLS = 512;
    private static final int[] WRONG = {-1, -2, 3, 4, 7, 10, 12, 13, 14, 100, 1000, Integer.MAX_VALUE, Integer.MIN_VALUE};
    private static final Due due = new Due("RandomRunsTest");

    private final Random random;
    private final LockerChains x = new LockerChains();
    private final Model model = new Model();
    private final int lockers;
    private final int people;
    private String toType = "";
    private int calls;

    private RandomRunsTest(int seed) {
        random = new Random(seed);
        lockers = 1 + random.nextInt(12);
        people = 1 + random.nextInt(10);
    }

    public static void main(String[] args) {
        for (int seed = 0; seed < RUNS; seed++) {
            due.part("run " + seed);
            new RandomRunsTest(seed).run();
        }
        due.end();
    }

    private void run() {
        // Half of the runs begin with all lockers in rows and all people, so that much can happen from then on.
        if (random.nextBoolean()) {
            for (int i = 0; i < lockers; i++) {
                int size = random.nextInt(3);
                same("locker", x.locker(size), model.locker(size));
                same("stand", x.stand(i, size), model.stand(i, size));
            }
            for (int i = 0; i < people; i++) {
                same("person", x.person(), model.person());
            }
        }
        while (calls < CALLS) {
            if (toType.isEmpty()) {
                step();
            } else {
                int sign = toType.charAt(0);
                toType = toType.substring(1);
                same("type", x.type(sign), model.type(sign));
            }
        }
    }

    private void same(String call, long got, long want) {
        calls++;
        due.is("call " + calls + ", " + call, got, want);
    }

    private int some(int bound) {
        return random.nextInt(25) == 0 ? WRONG[random.nextInt(WRONG.length)] : random.nextInt(bound);
    }

    private void step() {
        int which = random.nextInt(100);
        if (which < 55) {
            loanStep(random.nextInt(26));
        } else if (which < 95) {
            lookStep(random.nextInt(16));
        } else {
            textStep();
        }
    }

    private void loanStep(int which) {
        int p = some(people);
        int size = some(3);
        switch (which) {
            case 0:
                same("locker", x.locker(size), model.locker(size));
                break;
            case 1:
                same("person", x.person(), model.person());
                break;
            case 2: case 3:
                int l = some(lockers);
                int row = random.nextInt(4) == 0 ? size : x.lockerOf(l, 0);
                same("stand " + l + " " + row, x.stand(l, row), model.stand(l, row));
                break;
            case 4: case 5: case 6: case 7: case 8:
                int any = some(4);
                same("lend " + p + " " + any, x.lend(p, any), model.lend(p, any));
                break;
            case 9:
                same("giveBack " + p, x.giveBack(p), model.giveBack(p));
                break;
            case 10: case 11:
                same("renew " + p, x.renew(p), model.renew(p));
                break;
            case 12: case 13:
                same("lose " + p, x.lose(p), model.lose(p));
                break;
            case 14: case 15: case 16: case 17: case 18:
                same("wish " + p + " " + size, x.wish(p, size), model.wish(p, size));
                break;
            case 19:
                same("noWish " + p, x.noWish(p), model.noWish(p));
                break;
            case 20:
                same("swap", x.swap(), model.swap());
                break;
            case 21:
                int coins = Math.max(1, random.nextBoolean() ? x.personOf(p, 4) : some(40));
                same("pay " + p + " " + coins, x.pay(p, coins), model.pay(p, coins));
                break;
            case 22: case 23:
                int days = random.nextInt(4) == 0 ? some(101) : 1 + random.nextInt(9);
                same("pass " + days, x.pass(days), model.pass(days));
                break;
            case 24:
                int what = some(3);
                int value = some(random.nextInt(3) == 0 ? 102 : 6);
                same("set " + what + " " + value, x.set(what, value), model.set(what, value));
                break;
            default:
                same("undo", x.undo(), model.undo());
                break;
        }
    }

    private void lookStep(int which) {
        int p = some(people);
        switch (which) {
            case 0: case 1: case 2:
                int what = some(10);
                same("personOf " + p + " " + what, x.personOf(p, what), model.personOf(p, what));
                break;
            case 3: case 4: case 5:
                int l = some(lockers);
                int which2 = some(7);
                same("lockerOf " + l + " " + which2, x.lockerOf(l, which2), model.lockerOf(l, which2));
                break;
            case 6:
                int index = some(3);
                int of = some(2);
                same("waitingAt " + index + " " + of, x.waitingAt(index, of), model.waitingAt(index, of));
                break;
            case 7: case 8: case 9:
                int number = some(23);
                same("count " + number, x.count(number), model.count(number));
                break;
            case 10: case 11:
                int days = some(101);
                same("feeIn " + p + " " + days, x.feeIn(p, days), model.feeIn(p, days));
                break;
            case 12:
                same("wouldHave " + p, x.wouldHave(p), model.wouldHave(p));
                break;
            case 13:
                same("lentBits", x.lentBits(), model.lentBits());
                break;
            case 14:
                same("overdueBits", x.overdueBits(), model.overdueBits());
                break;
            default:
                int about = some(3);
                same("fault " + about, x.fault(about), model.fault(about));
                break;
        }
    }

    private void textStep() {
        int which = random.nextInt(6);
        if (which < 2) {
            same("clearText", x.clearText(), model.clearText());
            toType = someText();
        } else if (which == 2) {
            same("play", x.play(), model.play());
        } else {
            same("fault " + (which - 3), x.fault(which - 3), model.fault(which - 3));
        }
    }

    private String someText() {
        StringBuilder all = new StringBuilder();
        int commands = random.nextInt(5);
        for (int i = 0; i < commands; i++) {
            all.append(someCommand()).append(';');
        }
        if (all.length() > 0 && random.nextInt(4) == 0) {
            int at = random.nextInt(all.length());
            String signs = " ;0179alswp";
            char sign = signs.charAt(random.nextInt(signs.length()));
            switch (random.nextInt(3)) {
                case 0:
                    all.setCharAt(at, sign);
                    break;
                case 1:
                    all.insert(at, sign);
                    break;
                default:
                    all.deleteCharAt(at);
                    break;
            }
        }
        return all.toString();
    }

    private String someCommand() {
        String p = " " + (random.nextInt(6) == 0 ? "0" : "") + random.nextInt(people + (random.nextInt(9) == 0 ? 1 : 0));
        switch (random.nextInt(9)) {
            case 0: case 1:
                return "lend" + p + " " + random.nextInt(4);
            case 2:
                return "back" + p;
            case 3:
                return "renew" + p;
            case 4:
                return "lose" + p;
            case 5:
                return "wish" + p + " " + random.nextInt(3);
            case 6:
                return "swap";
            case 7:
                return "pay" + p + " " + (1 + random.nextInt(9));
            default:
                return "pass " + (random.nextInt(9) == 0 ? random.nextInt(1000) : random.nextInt(12));
        }
    }
}
