import java.io.IOException;
import java.lang.reflect.InvocationTargetException;
import java.lang.reflect.Method;
import java.nio.charset.StandardCharsets;
import java.nio.file.Files;
import java.nio.file.Path;
import java.util.ArrayList;
import java.util.HashMap;
import java.util.List;
import java.util.Map;
import java.util.regex.Matcher;
import java.util.regex.Pattern;

/**
 * Tests of single sentences of the document. Each names its sentence, which must stand in DOC.md under that heading, and
 * then makes calls on new objects. A call is written as "lend(0, 1) = 2" or "3 x pass(99) = 0"; several are parted by ";".
 * One without an answer only prepares, and must not be refused.
 */
final class Sentences {
    private static final Path DOCUMENT = Path.of("../shared/DOC.md");
    private static final Pattern LINE = Pattern.compile("(?:(\\d+) x )?(\\w+)\\(([^)]*)\\)(?: = (-?\\d+))?");
    private static final int PROMISED_CALLS = 512;
    private static final int KEPT_STATES = 4;

    private final Due due;
    private final Map<String, String> sections = new HashMap<>();
    private final Map<String, Method> methods = new HashMap<>();
    private LockerChains x = new LockerChains();
    private List<String> made = new ArrayList<>();

    Sentences(String test) {
        due = new Due(test);
        for (Method method : LockerChains.class.getMethods()) {
            methods.put(method.getName(), method);
        }
        readDocument();
    }

    private void readDocument() {
        try {
            for (String section : Files.readString(DOCUMENT, StandardCharsets.UTF_8).split("(?m)^#+ ")) {
                int end = section.indexOf('\n');
                if (end >= 0) {
                    sections.put(section.substring(0, end).strip(), section.substring(end).replaceAll("\\s+", " "));
                }
            }
        } catch (IOException e) {
            throw new IllegalStateException("there is no " + DOCUMENT, e);
        }
    }

    void end() {
        due.end();
    }

    /** Begins the test of a sentence, with a new object. */
    void of(String heading, String words) {
        due.part(heading + ", \"" + words + "\"");
        String section = sections.getOrDefault(heading, "");
        due.is("the document has the sentence, 1 or 0:", section.contains(words.replaceAll("\\s+", " ")) ? 1 : 0, 1);
        hall(0);
    }

    /** A new object with lockers of these sizes, each in its row, and so many people. */
    void hall(int people, int... sizes) {
        x = new LockerChains();
        made = new ArrayList<>();
        for (int i = 0; i < sizes.length; i++) {
            calls("locker(" + sizes[i] + ") = " + i);
            calls("stand(" + i + ", " + sizes[i] + ")");
        }
        for (int i = 0; i < people; i++) {
            calls("person() = " + i);
        }
    }

    void calls(String... texts) {
        for (String call : split(texts)) {
            made.add(call);
            Matcher parts = parse(call);
            long got = make(x, call);
            if (parts.group(4) != null) {
                due.is(call(made.size(), parts), got, Long.parseLong(parts.group(4)));
            } else {
                due.is(call(made.size(), parts) + ", refused, 1 or 0:", got < 0 ? 1 : 0, 0);
            }
        }
        due.is("more calls than are promised:", Math.max(0, made.size() - PROMISED_CALLS), 0);
    }

    /** The arguments of the call are of their ranges, whatever else it answers. */
    void taken(String text) {
        made.add(text);
        due.is(text + ", out of range, 1 or 0:", make(x, text) == LockerChains.INVALID_ARGUMENT ? 1 : 0, 0);
    }

    void is(String what, long got, long want) {
        due.is(what, got, want);
    }

    /** Each of the calls, looks and refused ones alike, leaves all that there is, and the history, as it was. */
    void changesNothing(String... texts) {
        for (String call : split(texts)) {
            List<String> before = new ArrayList<>(made);
            calls(call);
            for (int undone = 0; undone <= KEPT_STATES; undone++) {
                same(call + " changes nothing, " + undone + " x undone", seen(made, undone, true), seen(before, undone, true));
            }
        }
    }

    /** Each of the calls records one state, and undoing it restores everything. */
    void changes(String... texts) {
        for (String call : split(texts)) {
            List<String> before = new ArrayList<>(made);
            int states = (int) make(replayed(before), "count(12)");
            calls(call);
            int then = (int) make(replayed(made), "count(12)");
            due.is("states behind " + call, then, Math.min(KEPT_STATES, states + 1));
            for (int undone = 0; undone < then; undone++) {
                same(call + " is undone, and " + undone + " more", seen(made, undone + 1, false), seen(before, undone, false));
            }
        }
    }

    void types(String text) {
        calls("clearText()");
        for (int i = 0; i < text.length(); i++) {
            calls("type(" + (int) text.charAt(i) + ") = " + (i + 1));
        }
    }

    /** The text has this fault; it is as if it had not been typed afterwards. */
    void faults(String text, int place, int reason, int cause) {
        List<String> before = new ArrayList<>(made);
        types(text);
        changesNothing("fault(0) = " + place, "fault(1) = " + reason, "fault(2) = " + cause, "play() = -2");
        calls("count(13) = " + text.length());
        goBackTo(before);
    }

    /** The text has no fault, and so many commands; it is as if it had not been typed afterwards. */
    void plays(String text, int commands) {
        List<String> before = new ArrayList<>(made);
        types(text);
        changesNothing("fault(0) = -4", "fault(1) = -4", "fault(2) = -4");
        changes("play() = " + commands);
        calls("count(13) = " + text.length());
        goBackTo(before);
    }

    private void goBackTo(List<String> before) {
        made = before;
        x = replayed(before);
    }

    private void same(String what, String got, String want) {
        due.is(what + ", 1 or 0:", got.equals(want) ? 1 : 0, 1);
    }

    private static List<String> split(String... texts) {
        List<String> all = new ArrayList<>();
        for (String text : texts) {
            for (String call : text.split(";")) {
                Matcher parts = parse(call.strip());
                int times = parts.group(1) == null ? 1 : Integer.parseInt(parts.group(1));
                String one = call.strip().replaceFirst("^\\d+ x ", "");
                for (int i = 0; i < times; i++) {
                    all.add(one);
                }
            }
        }
        return all;
    }

    private static Matcher parse(String call) {
        Matcher parts = LINE.matcher(call);
        if (!parts.matches()) {
            throw new IllegalArgumentException("no call: " + call);
        }
        return parts;
    }

    private static String call(int number, Matcher parts) {
        return "call " + number + ", " + parts.group(2) + "(" + parts.group(3) + ")";
    }

    private static int number(String text) {
        switch (text) {
            case "MIN": return Integer.MIN_VALUE;
            case "MAX": return Integer.MAX_VALUE;
            default: return Integer.parseInt(text);
        }
    }

    private long make(LockerChains on, String call) {
        Matcher parts = parse(call);
        Method method = methods.get(parts.group(2));
        String[] texts = parts.group(3).isEmpty() ? new String[0] : parts.group(3).split(", ");
        Object[] numbers = new Object[texts.length];
        for (int i = 0; i < texts.length; i++) {
            numbers[i] = number(texts[i]);
        }
        try {
            return ((Number) method.invoke(on, numbers)).longValue();
        } catch (IllegalAccessException | InvocationTargetException e) {
            due.is(call + " threw " + e.getCause(), 1, 0);
            return Long.MIN_VALUE;
        }
    }

    private LockerChains replayed(List<String> calls) {
        LockerChains again = new LockerChains();
        for (String call : calls) {
            make(again, call);
        }
        return again;
    }

    /** All that can be seen when the calls have been made and some changes undone. */
    private String seen(List<String> calls, int undone, boolean history) {
        LockerChains on = replayed(calls);
        StringBuilder all = new StringBuilder();
        for (int i = 0; i < undone; i++) {
            long left = on.undo();
            if (history) {
                all.append(left).append(' ');
            }
        }
        for (int what = 0; what <= 22; what++) {
            all.append(what == 12 && !history ? 0 : on.count(what)).append(' ');
        }
        for (int p = 0; p < on.count(1); p++) {
            for (int what = 0; what <= 9; what++) {
                all.append(on.personOf(p, what)).append(' ');
            }
            all.append(on.feeIn(p, 31)).append(' ').append(on.wouldHave(p)).append('\n');
        }
        for (int l = 0; l < on.count(0); l++) {
            for (int what = 0; what <= 6; what++) {
                all.append(on.lockerOf(l, what)).append(' ');
            }
        }
        for (int i = 0; i < on.count(6); i++) {
            all.append(on.waitingAt(i, 0)).append('/').append(on.waitingAt(i, 1)).append(' ');
        }
        all.append(on.lentBits()).append(' ').append(on.overdueBits()).append(' ');
        all.append(on.fault(0)).append(' ').append(on.fault(1)).append(' ').append(on.fault(2)).append('\n');
        return all.append(orderOfWishes(on)).toString();
    }

    /** The order of wishes is seen only by who moves first to lockers that come anew. */
    private static String orderOfWishes(LockerChains on) {
        StringBuilder all = new StringBuilder();
        for (int size = 0; size < 3; size++) {
            all.append(on.stand(on.locker(size), size)).append(' ').append(on.swap()).append(':');
            for (int p = 0; p < on.count(1); p++) {
                all.append(on.personOf(p, 0)).append(' ');
            }
        }
        return all.toString();
    }
}
