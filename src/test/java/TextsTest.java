/** Promises 24 to 27: type, clearText, fault, play. */
public final class TextsTest {
    private static final Due due = new Due("TextsTest");

    public static void main(String[] args) {
        type();
        faultOfForm();
        faultOfRefusal();
        noFault();
        play();
        playIsOneChange();
        due.end();
    }

    private static void type() {
        due.part("promises 24 and 25");
        LockerChains x = new LockerChains();
        due.is("clearText()", x.clearText(), 0);
        due.is("type(31)", x.type(31), -1);
        due.is("type(127)", x.type(127), -1);
        due.is("type(-1)", x.type(-1), -1);
        due.is("type(32)", x.type(32), 1);
        due.is("type(126)", x.type(126), 2);
        for (int i = 3; i <= 80; i++) {
            due.is("type", x.type('a'), i);
        }
        due.is("type(97)", x.type(97), -3);
        due.is("type(31)", x.type(31), -1);
        due.is("count(13)", x.count(13), 80);
        due.is("count(12)", x.count(12), 0);
        due.is("clearText()", x.clearText(), 80);
        due.is("type(97)", x.type(97), 1);
    }

    private static void faultIs(LockerChains x, String text, int place, int reason, int cause) {
        Halls.type(x, text);
        due.is("fault(0) of '" + text + "'", x.fault(0), place);
        due.is("fault(1) of '" + text + "'", x.fault(1), reason);
        due.is("fault(2) of '" + text + "'", x.fault(2), cause);
        due.is("fault(-1) of '" + text + "'", x.fault(-1), -1);
        due.is("fault(3) of '" + text + "'", x.fault(3), -1);
        due.is("play() of '" + text + "'", x.play(), place >= 0 ? -2 : commandsOf(text));
    }

    private static int commandsOf(String text) {
        return (int) text.chars().filter(sign -> sign == ';').count();
    }

    private static void faultOfForm() {
        due.part("promise 26, the form");
        LockerChains x = Halls.with(1, 0, 1);
        String[] first = {";", " ", "swap", "swap ;", " swap;", "Swap;", "swaps;", "swap 0;", "back;", "back 0", "back  0;",
            "back 0 ;", "back 0000;", "back a;", "back -1;", "lend 0;", "lend 0 ;", "lend 0 1 1;", "lend 0,1;", "lend 0  1;",
            "lend 0 1", "lose;", "lose 0 0;", "wish 0;", "pay 0;", "pay 0 1000;", "pass;", "pass 1 1;", "pass1;", "set 0 1;",
            "locker 0;", "person;", "undo;", "giveBack 0;", "back 0a;", "renew;", "r", "passs 1;", "lend 0 1 ;", "swap,"};
        for (String text : first) {
            faultIs(x, text, 0, 1, -4);
        }
        faultIs(x, "swap;;", 5, 1, -4);
        faultIs(x, "swap; swap;", 5, 1, -4);
        faultIs(x, "swap;pass 1;x", 12, 1, -4);
        faultIs(x, "swap;pass 001;swap", 14, 1, -4);
        due.is("nothing is done", x.count(2), 0);
    }

    private static void faultOfRefusal() {
        due.part("promise 26, the cause");
        LockerChains x = Halls.with(2, 0, 1);
        faultIs(x, "lend 2 0;", 0, 2, -1);
        faultIs(x, "lend 999 0;", 0, 2, -1);
        faultIs(x, "lend 0 4;", 0, 2, -1);
        faultIs(x, "wish 0 3;", 0, 2, -1);
        faultIs(x, "pass 0;", 0, 2, -1);
        faultIs(x, "pass 100;", 0, 2, -1);
        faultIs(x, "pay 0 0;", 0, 2, -1);
        faultIs(x, "pay 0 1;", 0, 2, -2);
        faultIs(x, "back 0;", 0, 2, -2);
        faultIs(x, "lose 0;", 0, 2, -2);
        faultIs(x, "renew 0;", 0, 2, -2);
        faultIs(x, "wish 0 1;", 0, 2, -2);
        faultIs(x, "lend 0 0;lend 0 0;", 9, 2, -2);
        faultIs(x, "lend 0 0;renew 0;renew 0;renew 0;x", 25, 2, -3);
        faultIs(x, "lend 0 0;pass 11;renew 0;", 17, 2, -2);
        faultIs(x, "lend 0 0;lose 0;pay 0 6;", 16, 2, -2);
        due.is("nothing is done", x.count(4), 0);
        for (int i = 0; i < 50; i++) {
            x.pass(99);
        }
        faultIs(x, "pass 50;pass 1;", 8, 2, -3);
    }

    private static void noFault() {
        due.part("promise 26, none");
        LockerChains x = Halls.with(2, 0, 1);
        faultIs(x, "", -4, -4, -4);
        faultIs(x, "swap;", -4, -4, -4);
        faultIs(x, "lend 000 000;wish 00 1;lend 1 01;wish 1 0;swap;lose 0;pay 0 005;", -4, -4, -4);
        faultIs(x, "renew 0;back 0;back 1;pass 099;", -4, -4, -4);
        faultIs(x, "swap;swap;swap;swap;swap;swap;swap;swap;swap;swap;swap;swap;swap;swap;swap;swap;", -4, -4, -4);
        due.is("day", x.count(2), 99);
    }

    private static void play() {
        due.part("promise 27");
        LockerChains x = Halls.with(3, 0, 1);
        due.is("play() of nothing", x.play(), 0);
        Halls.type(x, "lend 0 0;lend 1 3;lend 2 3;wish 0 1;wish 1 0;swap;pass 12;pay 0 2;");
        due.is("play()", x.play(), 8);
        due.is("personOf(0, 0)", x.personOf(0, 0), 1);
        due.is("personOf(0, 4)", x.personOf(0, 4), 2);
        due.is("personOf(1, 4)", x.personOf(1, 4), 2);
        due.is("personOf(2, 7)", x.personOf(2, 7), 0);
        due.is("count(11)", x.count(11), 2);
        due.is("the text stays", x.count(13), 66);
        due.is("play() again", x.play(), -2);
        due.is("where", x.fault(0), 0);
        due.is("count(2)", x.count(2), 12);
    }

    private static void playIsOneChange() {
        due.part("promise 27, one change");
        LockerChains x = Halls.with(1, 0);
        x.pass(1);
        x.pass(1);
        Halls.type(x, "lend 0 0;pass 5;lose 0;back 0;");
        due.is("count(12)", x.count(12), 4);
        due.is("play()", x.play(), 4);
        due.is("count(12)", x.count(12), 4);
        due.is("count(8)", x.count(8), 5);
        due.is("undo()", x.undo(), 3);
        due.is("count(2)", x.count(2), 2);
        due.is("count(8)", x.count(8), 0);
        due.is("count(13)", x.count(13), 30);
        due.is("play()", x.play(), 4);
        due.is("undo()", x.undo(), 3);
        due.is("undo()", x.undo(), 2);
        due.is("count(2)", x.count(2), 1);
    }
}
