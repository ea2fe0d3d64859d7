import java.util.ArrayList;
import java.util.Comparator;
import java.util.LinkedHashMap;
import java.util.List;
import java.util.Map;
import java.util.TreeMap;
import java.util.regex.Matcher;
import java.util.regex.Pattern;

/** The document once more, in the plainest words that the Java library has; it shares nothing with the class. */
final class Model {
    static final class Loan {
        int locker;
        int due;
        int renewals;

        Loan(int locker, int due, int renewals) {
            this.locker = locker;
            this.due = due;
            this.renewals = renewals;
        }
    }

    static final class State {
        List<Integer> sizes = new ArrayList<>();
        List<Integer> rows = new ArrayList<>();
        List<Integer> keys = new ArrayList<>();
        List<Integer> lent = new ArrayList<>();
        Map<Integer, Integer> closed = new TreeMap<>();
        Map<Integer, Loan> loans = new TreeMap<>();
        Map<Integer, Integer> waiting = new LinkedHashMap<>();
        Map<Integer, Integer> wishes = new LinkedHashMap<>();
        List<int[]> people = new ArrayList<>();
        int day;
        int anew;
        int moved;
        int[] settings = {10, 2, 15};

        State copy() {
            State s = new State();
            s.sizes.addAll(sizes);
            s.rows.addAll(rows);
            s.keys.addAll(keys);
            s.lent.addAll(lent);
            s.closed.putAll(closed);
            loans.forEach((p, l) -> s.loans.put(p, new Loan(l.locker, l.due, l.renewals)));
            s.waiting.putAll(waiting);
            s.wishes.putAll(wishes);
            people.forEach(p -> s.people.add(p.clone()));
            s.day = day;
            s.anew = anew;
            s.moved = moved;
            s.settings = settings.clone();
            return s;
        }
    }

    private static final int OWES = 0;
    private static final int PAID = 1;
    private static final int LOST = 2;
    private static final int OPENED = 3;
    private static final Pattern COMMAND = Pattern.compile(
        "(?:(lend|wish|pay) (\\d{1,3}) (\\d{1,3})|(back|renew|lose|pass) (\\d{1,3})|(swap));");

    private State s = new State();
    private final List<State> history = new ArrayList<>();
    private String text = "";

    private int change(State before, int answer) {
        if (answer >= 0) {
            history.add(before);
            if (history.size() == 5) {
                history.remove(0);
            }
        } else {
            s = before;
        }
        return answer;
    }

    private boolean noPerson(int p) {
        return p < 0 || p >= s.people.size();
    }

    private boolean noLocker(int l) {
        return l < 0 || l >= s.sizes.size();
    }

    private int holder(int locker) {
        for (Map.Entry<Integer, Loan> e : s.loans.entrySet()) {
            if (e.getValue().locker == locker) {
                return e.getKey();
            }
        }
        return -4;
    }

    private boolean free(int l) {
        return s.rows.get(l) == 1 && holder(l) == -4 && !s.closed.containsKey(l);
    }

    private int lowestFree(int size) {
        for (int l = 0; l < s.sizes.size(); l++) {
            if (free(l) && (size == 3 || s.sizes.get(l) == size)) {
                return l;
            }
        }
        return -1;
    }

    private void owe(int p, int coins) {
        s.people.get(p)[OWES] += coins;
        s.anew += coins;
    }

    private void begin(int p, int l) {
        s.loans.put(p, new Loan(l, s.day + s.settings[0], 0));
        s.lent.set(l, s.lent.get(l) + 1);
    }

    private void served(int l) {
        for (Map.Entry<Integer, Integer> e : s.waiting.entrySet()) {
            if (free(l) && (e.getValue() == 3 || e.getValue().equals(s.sizes.get(l)))) {
                begin(e.getKey(), l);
                s.waiting.remove(e.getKey());
                return;
            }
        }
    }

    private int late(int p) {
        return Math.max(0, s.day - s.loans.get(p).due);
    }

    int locker(int size) {
        State before = s.copy();
        if (size < 0 || size > 2) {
            return -1;
        }
        if (s.sizes.size() == 12) {
            return -3;
        }
        s.sizes.add(size);
        s.rows.add(0);
        s.keys.add(1);
        s.lent.add(0);
        return change(before, s.sizes.size() - 1);
    }

    int person() {
        State before = s.copy();
        if (s.people.size() == 10) {
            return -3;
        }
        s.people.add(new int[4]);
        return change(before, s.people.size() - 1);
    }

    int stand(int l, int row) {
        State before = s.copy();
        if (noLocker(l) || row < 0 || row > 2) {
            return -1;
        }
        if (s.rows.get(l) == 1 || s.sizes.get(l) != row) {
            return -2;
        }
        int there = 0;
        for (int i = 0; i < s.sizes.size(); i++) {
            there += s.rows.get(i) == 1 && s.sizes.get(i) == row ? 1 : 0;
        }
        if (there == 4) {
            return -3;
        }
        s.rows.set(l, 1);
        served(l);
        return change(before, there + 1);
    }

    int lend(int p, int size) {
        State before = s.copy();
        return change(before, doLend(p, size));
    }

    private int doLend(int p, int size) {
        if (noPerson(p) || size < 0 || size > 3) {
            return -1;
        }
        if (s.loans.containsKey(p) || s.waiting.containsKey(p) || s.people.get(p)[OWES] > 30) {
            return -2;
        }
        int l = lowestFree(size);
        if (l >= 0) {
            begin(p, l);
            return l;
        }
        s.waiting.put(p, size);
        return 100 + s.waiting.size();
    }

    int giveBack(int p) {
        State before = s.copy();
        return change(before, doBack(p));
    }

    private int doBack(int p) {
        if (noPerson(p)) {
            return -1;
        }
        if (s.waiting.remove(p) != null) {
            return 0;
        }
        if (!s.loans.containsKey(p)) {
            return -2;
        }
        int late = late(p);
        int l = s.loans.remove(p).locker;
        s.wishes.remove(p);
        served(l);
        return late;
    }

    int renew(int p) {
        State before = s.copy();
        return change(before, doRenew(p));
    }

    private int doRenew(int p) {
        if (noPerson(p)) {
            return -1;
        }
        Loan loan = s.loans.get(p);
        if (loan == null || late(p) > 0 || s.waiting.containsValue(3)
            || s.waiting.containsValue(s.sizes.get(loan.locker))) {
            return -2;
        }
        if (loan.renewals >= s.settings[1]) {
            return -3;
        }
        loan.renewals += 1;
        loan.due += s.settings[0];
        return loan.due;
    }

    int lose(int p) {
        State before = s.copy();
        return change(before, doLose(p));
    }

    private int doLose(int p) {
        if (noPerson(p)) {
            return -1;
        }
        if (!s.loans.containsKey(p)) {
            return -2;
        }
        int l = s.loans.get(p).locker;
        s.people.get(p)[LOST]++;
        owe(p, 5);
        if (s.keys.get(l) == 1) {
            s.keys.set(l, 0);
            return s.people.get(p)[OWES];
        }
        owe(p, 20);
        s.loans.remove(p);
        s.wishes.remove(p);
        s.keys.set(l, 1);
        s.closed.put(l, s.day + 3);
        int next = lowestFree(s.sizes.get(l));
        if (next >= 0) {
            begin(p, next);
        } else {
            s.waiting.put(p, s.sizes.get(l));
        }
        return s.people.get(p)[OWES];
    }

    int wish(int p, int size) {
        State before = s.copy();
        return change(before, doWish(p, size));
    }

    private int doWish(int p, int size) {
        if (noPerson(p) || size < 0 || size > 2) {
            return -1;
        }
        if (!s.loans.containsKey(p) || s.sizes.get(s.loans.get(p).locker) == size) {
            return -2;
        }
        s.wishes.remove(p);
        s.wishes.put(p, size);
        return s.wishes.size();
    }

    int noWish(int p) {
        State before = s.copy();
        if (noPerson(p)) {
            return -1;
        }
        Integer size = s.wishes.remove(p);
        return size == null ? -2 : change(before, size);
    }

    int swap() {
        State before = s.copy();
        return change(before, doSwap());
    }

    private int doSwap() {
        int people = 0;
        while (true) {
            int[] ring = freeMove() ? new int[1] : ringMove();
            if (ring == null) {
                s.moved += people;
                return people;
            }
            people += ring.length;
        }
    }

    private boolean freeMove() {
        for (Map.Entry<Integer, Integer> e : s.wishes.entrySet()) {
            int l = lowestFree(e.getValue());
            if (l >= 0) {
                int old = s.loans.get(e.getKey()).locker;
                s.loans.get(e.getKey()).locker = l;
                s.lent.set(l, s.lent.get(l) + 1);
                s.wishes.remove(e.getKey());
                served(old);
                return true;
            }
        }
        return false;
    }

    /** Lists all rings, sorts them as the document does, and takes the first. */
    private int[] ringMove() {
        List<int[]> rings = new ArrayList<>();
        List<Integer> wishers = new ArrayList<>(s.wishes.keySet());
        for (int a : wishers) {
            for (int b : wishers) {
                addRing(rings, a, b);
                for (int c : wishers) {
                    addRing(rings, a, b, c);
                }
            }
        }
        rings.sort(Comparator.<int[]>comparingInt(r -> r[0]).thenComparingInt(r -> r[1])
            .thenComparingInt(r -> r.length).thenComparingInt(r -> r.length == 3 ? r[2] : 0));
        if (rings.isEmpty()) {
            return null;
        }
        int[] ring = rings.get(0);
        int[] lockers = new int[ring.length];
        for (int i = 0; i < ring.length; i++) {
            lockers[i] = s.loans.get(ring[i]).locker;
        }
        for (int i = 0; i < ring.length; i++) {
            int l = lockers[(i + 1) % ring.length];
            s.loans.get(ring[i]).locker = l;
            s.lent.set(l, s.lent.get(l) + 1);
            s.wishes.remove(ring[i]);
        }
        return ring;
    }

    private void addRing(List<int[]> rings, int... ring) {
        for (int i = 0; i < ring.length; i++) {
            int next = ring[(i + 1) % ring.length];
            if (ring[i] < ring[0] || !s.wishes.get(ring[i]).equals(s.sizes.get(s.loans.get(next).locker))) {
                return;
            }
            for (int j = 0; j < i; j++) {
                if (ring[i] == ring[j]) {
                    return;
                }
            }
        }
        rings.add(ring);
    }

    int pay(int p, int coins) {
        State before = s.copy();
        return change(before, doPay(p, coins));
    }

    private int doPay(int p, int coins) {
        if (noPerson(p) || coins < 1 || coins > 999) {
            return -1;
        }
        int[] person = s.people.get(p);
        if (coins > person[OWES]) {
            return -2;
        }
        person[PAID] += coins;
        return person[OWES] -= coins;
    }

    int pass(int days) {
        State before = s.copy();
        return change(before, doPass(days));
    }

    private int doPass(int days) {
        if (days < 1 || days > 99) {
            return -1;
        }
        if (s.day + days > 5000) {
            return -3;
        }
        int opened = 0;
        for (int i = 0; i < days; i++) {
            opened += oneDay();
        }
        return opened;
    }

    private int oneDay() {
        s.day++;
        for (int l = 0; l < s.sizes.size(); l++) {
            if (s.closed.containsKey(l) && s.closed.get(l) == s.day) {
                s.closed.remove(l);
                served(l);
            }
        }
        int opened = 0;
        for (int p = 0; p < s.people.size(); p++) {
            if (!s.loans.containsKey(p) || late(p) == 0) {
                continue;
            }
            int late = late(p);
            int l = s.loans.get(p).locker;
            owe(p, (late < 8 ? 1 : late < 15 ? 2 : 4) * (1 + s.sizes.get(l)));
            if (late == 21) {
                owe(p, s.settings[2]);
                s.people.get(p)[OPENED]++;
                s.loans.remove(p);
                s.wishes.remove(p);
                served(l);
                opened++;
            }
        }
        return opened;
    }

    int set(int what, int value) {
        State before = s.copy();
        int[][] ranges = {{1, 60}, {0, 5}, {0, 99}};
        if (what < 0 || what > 2 || value < ranges[what][0] || value > ranges[what][1]) {
            return -1;
        }
        int was = s.settings[what];
        s.settings[what] = value;
        return change(before, was);
    }

    int personOf(int p, int what) {
        if (noPerson(p) || what < 0 || what > 9) {
            return -1;
        }
        Loan loan = s.loans.get(p);
        if (what < 4 && loan == null) {
            return -4;
        }
        int[] person = s.people.get(p);
        switch (what) {
            case 0: return loan.locker;
            case 1: return loan.due;
            case 2: return loan.renewals;
            case 3: return late(p);
            case 4: return person[OWES];
            case 5: return person[PAID];
            case 6: return s.wishes.getOrDefault(p, -4);
            case 7: return s.waiting.containsKey(p) ? new ArrayList<>(s.waiting.keySet()).indexOf(p) : -4;
            case 8: return person[LOST];
            default: return person[OPENED];
        }
    }

    int lockerOf(int l, int what) {
        if (noLocker(l) || what < 0 || what > 6) {
            return -1;
        }
        switch (what) {
            case 0: return s.sizes.get(l);
            case 1: return s.rows.get(l);
            case 2: return holder(l);
            case 3: return free(l) ? 1 : 0;
            case 4: return s.keys.get(l);
            case 5: return s.closed.getOrDefault(l, -4);
            default: return s.lent.get(l);
        }
    }

    int waitingAt(int index, int what) {
        if (index < 0 || what < 0 || what > 1) {
            return -1;
        }
        if (index >= s.waiting.size()) {
            return -4;
        }
        int person = new ArrayList<>(s.waiting.keySet()).get(index);
        return what == 0 ? person : s.waiting.get(person);
    }

    int count(int what) {
        int sum = 0;
        switch (what) {
            case 0: return s.sizes.size();
            case 1: return s.people.size();
            case 2: return s.day;
            case 3:
                for (int l = 0; l < s.sizes.size(); l++) {
                    sum += free(l) ? 1 : 0;
                }
                return sum;
            case 4: return s.loans.size();
            case 5: return s.closed.size();
            case 6: return s.waiting.size();
            case 7: return s.wishes.size();
            case 8: return s.people.stream().mapToInt(p -> p[OWES]).sum();
            case 9: return s.people.stream().mapToInt(p -> p[PAID]).sum();
            case 10: return s.anew;
            case 11: return s.moved;
            case 12: return history.size();
            case 13: return text.length();
            case 20: case 21: case 22: return s.settings[what - 20];
            default: return -1;
        }
    }

    int feeIn(int p, int days) {
        if (noPerson(p) || days < 1 || days > 99) {
            return -1;
        }
        State kept = s;
        s = s.copy();
        for (int i = 0; i < days; i++) {
            oneDay();
        }
        int fee = s.people.get(p)[OWES] - kept.people.get(p)[OWES];
        s = kept;
        return fee;
    }

    int wouldHave(int p) {
        State kept = s;
        s = s.copy();
        doSwap();
        int answer = personOf(p, 0);
        s = kept;
        return answer;
    }

    long lentBits() {
        long rows = s.rows.stream().filter(r -> r == 1).count();
        return rows == 0 ? -4 : Double.doubleToRawLongBits((double) s.loans.size() / (double) rows);
    }

    int overdueBits() {
        int days = 0;
        for (int p : s.loans.keySet()) {
            days += late(p);
        }
        return s.loans.isEmpty() ? -4 : Float.floatToRawIntBits((float) days / (float) s.loans.size());
    }

    int undo() {
        if (history.isEmpty()) {
            return -2;
        }
        s = history.remove(history.size() - 1);
        return history.size();
    }

    int type(int character) {
        if (character < 32 || character > 126) {
            return -1;
        }
        if (text.length() == 80) {
            return -3;
        }
        text += (char) character;
        return text.length();
    }

    int clearText() {
        int length = text.length();
        text = "";
        return length;
    }

    /** Does the text on the state: {position, reason, cause}, or {-4, -4, -4, commands} if it has no fault. */
    private int[] doText() {
        Matcher m = COMMAND.matcher(text);
        int at = 0;
        int commands = 0;
        while (at < text.length()) {
            m.region(at, text.length());
            if (!m.lookingAt()) {
                return new int[] {at, 1, -4};
            }
            int answer = doCommand(m);
            if (answer < 0) {
                return new int[] {at, 2, answer};
            }
            commands++;
            at = m.end();
        }
        return new int[] {-4, -4, -4, commands};
    }

    private int doCommand(Matcher m) {
        if (m.group(6) != null) {
            return doSwap();
        }
        if (m.group(1) != null) {
            int a = Integer.parseInt(m.group(2));
            int b = Integer.parseInt(m.group(3));
            return m.group(1).equals("lend") ? doLend(a, b) : m.group(1).equals("wish") ? doWish(a, b) : doPay(a, b);
        }
        int a = Integer.parseInt(m.group(5));
        switch (m.group(4)) {
            case "back": return doBack(a);
            case "renew": return doRenew(a);
            case "lose": return doLose(a);
            default: return doPass(a);
        }
    }

    int fault(int what) {
        if (what < 0 || what > 2) {
            return -1;
        }
        State kept = s;
        s = s.copy();
        int answer = doText()[what];
        s = kept;
        return answer;
    }

    int play() {
        State before = s.copy();
        int[] done = doText();
        return change(before, done.length == 4 ? done[3] : -2);
    }
}
