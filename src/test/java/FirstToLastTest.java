import java.io.IOException;
import java.nio.charset.StandardCharsets;
import java.nio.file.Files;
import java.nio.file.Path;

/** The document from its first line to its last: its face, what each call is for, and what the other tests do not name. */
public final class FirstToLastTest {
    private static final Sentences s = new Sentences("FirstToLastTest");
    private static final Path DOCUMENT = Path.of("../shared/DOC.md");
    private static final Path SOURCE = Path.of("src/main/java/LockerChains.java");

    public static void main(String[] args) throws IOException {
        face();
        headings();
        timeAndMoney();
        lockersAndPeople();
        lending();
        keysAndWishes();
        coinsDaysSettings();
        somethingOfAPerson();
        somethingOfALocker();
        waitingAndNumbers();
        meanAsAFloat();
        texts();
        s.end();
    }

    /** Each line of the document's face stands in the class, in the same order, and each of its calls is promised. */
    private static void face() throws IOException {
        s.of("The public face", "public final class LockerChains {");
        String source = Files.readString(SOURCE, StandardCharsets.US_ASCII);
        String document = Files.readString(DOCUMENT, StandardCharsets.UTF_8);
        int last = source.indexOf("public final class LockerChains {\n");
        s.is("the class is in the source, 1 or 0:", last >= 0 ? 1 : 0, 1);
        int lines = 0;
        for (String line : document.split("```")[1].split("\n")) {
            if (line.endsWith(";")) {
                String due = line.contains("=") ? line : line.replace(";", " {");
                int place = source.indexOf(due + "\n");
                s.is("'" + line.strip() + "' behind the line ahead of it, 1 or 0:", place > last ? 1 : 0, 1);
                String promise = "`" + line.strip().replace("public ", "").replace(";", "") + "`: ";
                s.is("'" + promise + "' is told, 1 or 0:", line.contains("=") || document.contains(promise) ? 1 : 0, 1);
                last = place;
                lines++;
            }
        }
        s.is("lines of the face", lines, 31);
    }

    private static void headings() throws IOException {
        heading("Ahead of the calls `locker`, `person`, `stand` the interface says: ---- lockers, people.");
        heading("Ahead of the calls `lend`, `giveBack`, `renew`, `lose`, `wish`, `noWish`, `swap`, `pay`, `pass`, `set` "
            + "the interface says: ---- loans.");
        heading("Ahead of the calls `personOf`, `lockerOf`, `waitingAt`, `count` the interface says: ---- what there is.");
        heading("Ahead of the calls `feeIn`, `wouldHave`, `lentBits`, `overdueBits`, `undo` the interface says: ---- what "
            + "would be, shares.");
        heading("Ahead of the calls `type`, `clearText`, `fault`, `play` the interface says: ---- texts.");
    }

    /** The calls that the sentence names stand behind its heading in the class, and ahead of the next one. */
    private static void heading(String words) throws IOException {
        s.of("Changes and errors", words);
        String source = Files.readString(SOURCE, StandardCharsets.US_ASCII);
        String mark = "    // " + words.substring(words.indexOf("----"), words.length() - 1) + "\n";
        int from = source.indexOf(mark);
        s.is("the heading is in the source, 1 or 0:", from >= 0 ? 1 : 0, 1);
        String part = from < 0 ? "" : source.substring(from + mark.length()).split("    // ----")[0];
        String[] names = words.split("`");
        for (int i = 1; i < names.length; i += 2) {
            s.is(names[i] + " is behind it, 1 or 0:", part.matches("(?s).*public \\w+ " + names[i] + "\\(.*") ? 1 : 0, 1);
        }
    }

    private static void timeAndMoney() {
        s.of("Terms", "All numbers are whole numbers, where no float or double is told.");
        s.hall(2, 0, 0, 0);
        s.calls("lend(0, 0) = 0; pass(11); personOf(0, 4) = 1; lend(1, 0) = 1; lentBits() = 4604180019048437077");
        s.calls("overdueBits() = 1056964608");
        s.of("Terms", "Time is told in days, 0 at first, money in coins.");
        s.hall(1, 2);
        s.calls("count(2) = 0; lend(0, 2) = 0; personOf(0, 1) = 10; pass(10) = 0; count(2) = 10; personOf(0, 3) = 0");
        s.calls("pass(1) = 0; count(2) = 11; personOf(0, 3) = 1; count(8) = 3; pay(0, 3) = 0; count(9) = 3; count(8) = 0");
    }

    private static void lockersAndPeople() {
        s.of("Promise 2: locker", "Adds a locker, which is in no row.");
        s.calls("count(0) = 0; locker(1) = 0; count(0) = 1; lockerOf(0, 1) = 0; lockerOf(0, 3) = 0; lentBits() = -4");
        s.of("Promise 3: person", "Adds a person.");
        s.calls("count(1) = 0; person() = 0; count(1) = 1; personOf(0, 4) = 0; personOf(0, 0) = -4; personOf(0, 7) = -4");
        s.of("Promise 4: stand", "Puts a locker into a row.");
        s.calls("locker(2) = 0; stand(0, 2) = 1; lockerOf(0, 1) = 1; lockerOf(0, 3) = 1; count(3) = 1; lentBits() = 0");
    }

    private static void lending() {
        s.of("Promise 6: giveBack", "Takes the locker of a person back;");
        s.hall(2, 0);
        s.calls("lend(0, 0) = 0; lockerOf(0, 2) = 0; giveBack(0) = 0; lockerOf(0, 2) = -4; personOf(0, 0) = -4; count(4) = 0");
        s.calls("count(3) = 1; lend(1, 0) = 0; giveBack(0) = -2");
        s.of("Promise 7: renew", "Renews a loan.");
        s.hall(1, 0);
        s.calls("lend(0, 0) = 0; pass(10); renew(0) = 20; personOf(0, 1) = 20; personOf(0, 2) = 1; personOf(0, 0) = 0");
        s.calls("pass(10); count(8) = 0; pass(1); count(8) = 1");
    }

    private static void keysAndWishes() {
        s.of("Promise 8: lose", "Lets a person lose the key.");
        s.hall(1, 0);
        s.calls("lend(0, 0) = 0; lose(0) = 5; personOf(0, 8) = 1; lockerOf(0, 4) = 0; personOf(0, 0) = 0; count(10) = 5");
        s.of("Promise 9: wish", "Lets a person wish for a size,");
        s.hall(1, 0, 1);
        s.calls("lend(0, 0) = 0; personOf(0, 6) = -4; wish(0, 1) = 1; personOf(0, 6) = 1; count(7) = 1; personOf(0, 0) = 0");
        s.of("Promise 10: noWish", "Ends the wish of a person.");
        s.hall(1, 0, 1);
        s.calls("lend(0, 0) = 0; wish(0, 1) = 1; noWish(0) = 1; personOf(0, 6) = -4; count(7) = 0; swap() = 0; noWish(0) = -2");
        s.of("Promise 11: swap", "Swaps.");
        s.hall(1, 0, 1);
        s.calls("lend(0, 0) = 0; wish(0, 1) = 1; swap() = 1; personOf(0, 0) = 1; lockerOf(0, 3) = 1; count(7) = 0; swap() = 0");
    }

    private static void coinsDaysSettings() {
        s.of("Promise 12: pay", "Lets a person pay.");
        s.hall(1, 0);
        s.calls("lend(0, 0) = 0; lose(0) = 5; pay(0, 2) = 3; personOf(0, 4) = 3; personOf(0, 5) = 2; pay(0, 3) = 0");
        s.calls("personOf(0, 5) = 5; count(9) = 5; count(10) = 5");
        s.of("Promise 13: pass", "Lets days go by.");
        s.calls("pass(1) = 0; count(2) = 1; pass(99) = 0; count(2) = 100");
        s.of("Promise 14: set", "Sets a setting;");
        s.hall(1, 0);
        s.calls("set(0, 3) = 10; count(20) = 3; lend(0, 0) = 0; personOf(0, 1) = 3; set(1, 0) = 2; count(21) = 0");
        s.calls("renew(0) = -3; set(2, 40) = 15; count(22) = 40; pass(24) = 1; personOf(0, 4) = 89");
    }

    private static void somethingOfAPerson() {
        s.of("Promise 15: personOf", "Returns something of a person.");
        s.hall(1, 0, 1);
        s.calls("lend(0, 1) = 1; renew(0) = 20; lose(0) = 5; wish(0, 0) = 1; pass(22); pay(0, 4) = 5");
        s.calls("personOf(0, 0) = 1; personOf(0, 1) = 20; personOf(0, 2) = 1; personOf(0, 3) = 2; personOf(0, 4) = 5");
        s.calls("personOf(0, 5) = 4; personOf(0, 6) = 0; personOf(0, 7) = -4; personOf(0, 8) = 1; personOf(0, 9) = 0");
        s.of("Promise 15: personOf", "0: the locker; 1: the day on which the loan is due; 2: how often it was renewed; 3: how "
            + "many days it is overdue; 4: what the person owes;");
        s.hall(2, 0, 0, 2);
        s.calls("lend(0, 2) = 2; lend(1, 0) = 0; pass(4); renew(0) = 20; renew(0) = 30; pass(29) = 1; lose(1) = -2");
        s.calls("personOf(0, 0) = 2; personOf(0, 1) = 30; personOf(0, 2) = 2; personOf(0, 3) = 3; personOf(0, 4) = 9");
        s.calls("personOf(1, 0) = -4; personOf(1, 1) = -4; personOf(1, 2) = -4; personOf(1, 3) = -4; personOf(1, 4) = 64");
    }

    private static void somethingOfALocker() {
        s.of("Promise 16: lockerOf", "Returns something of a locker.");
        s.hall(2, 0, 1);
        s.calls("lend(0, 1) = 1; lose(0) = 5; lockerOf(1, 0) = 1; lockerOf(1, 1) = 1; lockerOf(1, 2) = 0; lockerOf(1, 3) = 0");
        s.calls("lockerOf(1, 4) = 0; lockerOf(1, 5) = -4; lockerOf(1, 6) = 1; lose(0) = 30; lockerOf(1, 4) = 1");
        s.calls("lockerOf(1, 5) = 3; lockerOf(1, 2) = -4; lockerOf(1, 3) = 0");
    }

    private static void waitingAndNumbers() {
        s.of("Promise 17: waitingAt", "Returns a person who waits.");
        s.hall(3);
        s.calls("lend(2, 1) = 101; lend(0, 3) = 102; waitingAt(0, 0) = 2; waitingAt(0, 1) = 1; waitingAt(1, 0) = 0");
        s.calls("waitingAt(1, 1) = 3; waitingAt(2, 0) = -4");
        s.of("Promise 18: count", "Returns a number.");
        s.hall(2, 0, 1);
        s.calls("lend(0, 0) = 0; lend(1, 0) = 101; pass(12); wish(0, 1) = 1; swap() = 1; count(0) = 2; count(1) = 2");
        s.calls("count(2) = 12; count(3) = 0; count(4) = 2; count(5) = 0; count(6) = 0; count(7) = 0; count(8) = 2");
        s.calls("count(9) = 0; count(10) = 2; count(11) = 1; count(12) = 4; count(13) = 0; count(20) = 10; count(21) = 2");
    }

    private static void meanAsAFloat() {
        s.of("Promise 22: overdueBits", "Returns the bits of a mean as a float:");
        s.hall(3, 0, 0, 0);
        s.calls("lend(0, 0) = 0; lend(1, 0) = 1; pass(11); lend(2, 0) = 2; overdueBits() = "
            + Float.floatToRawIntBits(2.0f / 3.0f));
    }

    private static void texts() {
        s.of("Promise 24: type", "Appends a character to the text.");
        s.hall(1, 0);
        s.plays("lend 0 0;", 1);
        s.faults("lend 0 0", 0, 1, -4);
        s.of("Promise 25: clearText", "Empties the text.");
        s.calls("type(120) = 1; type(59) = 2; fault(0) = 0; clearText() = 2; count(13) = 0; fault(0) = -4; play() = 0");
        s.of("Promise 26: fault", "Tells about the fault of the text.");
        s.hall(1, 0);
        s.faults("lend 0 0;swap;pay 0 1;", 14, 2, -2);
        s.faults("pass 1;pas 1;", 7, 1, -4);
    }
}
