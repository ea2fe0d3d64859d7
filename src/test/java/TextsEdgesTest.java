/** Boundary cases of "Texts" and promises 24 to 27. */
public final class TextsEdgesTest {
    private static final Sentences s = new Sentences("TextsEdgesTest");

    public static void main(String[] args) {
        atMost80Characters();
        initiallyEmpty();
        eachFollowedBySemicolon();
        oneBlankBetweenWords();
        words();
        numbersOfEach();
        oneToThreeDigits();
        numbersOutOfRange();
        placeOfTheFirst();
        thoseAheadAreDone();
        reasons();
        causes();
        type();
        clearText();
        fault();
        faultNotFound();
        play();
        playIsOneChange();
        playOfEachCommand();
        s.end();
    }

    private static void atMost80Characters() {
        s.of("Texts", "There is a text of at most 80 characters");
        String sixteen = "swap;".repeat(16);
        s.plays(sixteen, 16);
        s.types(sixteen);
        s.changesNothing("type(59) = -3; type(32) = -3; type(126) = -3; type(31) = -1; type(127) = -1");
        s.calls("count(13) = 80; play() = 16");
        // A command that does not fit is one without its ";".
        s.hall(0);
        s.faults("swap;".repeat(15) + "swap ", 75, 1, -4);
        s.faults("swap;".repeat(14) + "pass 00001", 70, 1, -4);
        s.plays("swap;".repeat(14) + "pass 001;", 15);
        s.faults("a".repeat(80), 0, 1, -4);
    }

    private static void initiallyEmpty() {
        s.of("Texts", "initially empty");
        s.changesNothing("count(13) = 0; fault(0) = -4; fault(1) = -4; fault(2) = -4; clearText() = 0");
        s.changes("play() = 0");
        s.calls("type(115) = 1; count(13) = 1");
    }

    private static void eachFollowedBySemicolon() {
        s.of("Texts", "commands, each followed by \";\"");
        s.hall(1, 0);
        s.plays("swap;", 1);
        s.faults("swap", 0, 1, -4);
        s.faults("swap;swap", 5, 1, -4);
        s.faults("swap;pass 1", 5, 1, -4);
        s.faults(";", 0, 1, -4);
        s.faults("swap;;", 5, 1, -4);
        s.faults(";swap;", 0, 1, -4);
        s.faults("swap,", 0, 1, -4);
        s.faults("swap:", 0, 1, -4);
        s.faults("swap;s", 5, 1, -4);
        s.faults("lend 0 0", 0, 1, -4);
        s.faults("lend 0 0:", 0, 1, -4);
    }

    private static void oneBlankBetweenWords() {
        s.of("Texts", "of words with one blank between two");
        s.hall(1, 0);
        s.plays("lend 0 0;back 0;", 2);
        String[] wrong = {"lend  0 0;", "lend 0  0;", "lend 0 0 ;", " lend 0 0;", "lend0 0;", "lend 00;", "lend 0,0;",
            "lend_0 0;", "swap ;",
            " swap;", " ", "  ", "pass  1;", "pass 1 ;", "pass1;", "pass-1;", "lend 0", "lend 0 ", "lend ", "lend"};
        for (String text : wrong) {
            s.faults(text, 0, 1, -4);
        }
        s.faults("swap; swap;", 5, 1, -4);
        s.faults("swap; ", 5, 1, -4);
        s.faults("lend 0 0; back 0;", 9, 1, -4);
    }

    private static void words() {
        s.of("Texts", "\"lend\" a person and a size (0 to 3), \"back\" a person, \"renew\" a person, \"lose\" a person, "
            + "\"wish\" a person and a size, \"swap\", \"pay\" a person and coins, or \"pass\" days");
        s.hall(1, 0);
        s.plays("lend 0 0;renew 0;lose 0;wish 0 1;swap;pay 0 5;pass 1;back 0;", 8);
        String[] wrong = {"Lend 0 0;", "LEND 0 0;", "len 0 0;", "lends 0 0;", "end 0 0;", "giveBack 0;", "give 0;", "Back 0;",
            "bac 0;", "renews 0;",
            "loose 0;", "los 0;", "wisch 0 1;", "noWish 0;", "swaps;", "swa;", "Swap;", "pays 0 1;", "pa 0 1;", "passs 1;",
            "pas 1;", "set 0 1;",
            "locker 0;", "person;", "stand 0 0;", "undo;", "play;", "0;", "0 lend 0;", "l", "len", "passpass 1;", "swapswap;",
            "paypass 1;", "lendback 0;"};
        for (String text : wrong) {
            s.faults(text, 0, 1, -4);
        }
    }

    private static void numbersOfEach() {
        s.of("Texts", "\"swap\", \"pay\" a person and coins, or \"pass\" days");
        s.hall(1, 0);
        String[] words = {"lend", "back", "renew", "lose", "wish", "swap", "pay", "pass"};
        int[] numbers = {2, 1, 1, 1, 2, 0, 2, 1};
        for (int i = 0; i < words.length; i++) {
            for (int n = 0; n <= 3; n++) {
                if (n != numbers[i]) {
                    s.faults(words[i] + " 0".repeat(n) + ";", 0, 1, -4);
                }
            }
        }
    }

    private static void oneToThreeDigits() {
        s.of("Texts", "numbers have one to three digits, 0 ahead allowed.");
        s.hall(1, 0);
        s.plays("pass 1;pass 01;pass 001;pass 10;pass 099;pass 99;pass 010;", 7);
        s.plays("lend 000 000;back 00;lend 0 003;lose 00;pay 000 005;", 5);
        s.types("pass 1;pass 01;pass 001;pass 10;pass 099;pass 99;pass 010;");
        s.calls("play() = 7; count(2) = 221");
        String[] wrong = {"pass 0001;", "pass 0000;", "pass 1000;", "pass 0099;", "pass ;", "pass;", "pass -1;", "pass +1;",
            "pass 1a;", "pass a;", "pass a1;",
            "pass 1.0;", "pass 0x1;", "pass /;", "pass :;", "lend 0000 0;", "lend 0 0000;", "lend  0;", "lend 0 ;",
            "lend a 0;", "lend 0 a;", "back 0000;"};
        for (String text : wrong) {
            s.faults(text, 0, 1, -4);
        }
    }

    private static void numbersOutOfRange() {
        s.of("Texts", "its reason is 1 if it is not of this form, its \";\" included, and otherwise 2");
        s.hall(2, 0);
        String[] refused = {"lend 2 0;", "lend 999 0;", "lend 0 4;", "lend 0 999;", "back 2;", "renew 2;", "lose 010;",
            "wish 0 3;", "wish 2 0;", "pay 0 0;",
            "pay 0 000;", "pay 2 1;", "pass 0;", "pass 000;", "pass 100;", "pass 999;"};
        for (String text : refused) {
            s.faults(text, 0, 2, -1);
        }
        s.faults("pay 0 999;", 0, 2, -2);
    }

    private static void placeOfTheFirst() {
        s.of("Texts", "The fault of the text is the position, from 0, of the first character of the first command that is "
            + "not possible");
        s.hall(1, 0);
        s.faults("x", 0, 1, -4);
        s.faults("swap;x", 5, 1, -4);
        s.faults("swap;swap;x", 10, 1, -4);
        // The first character of the command, not the one that is wrong; the first command, not a later one.
        s.faults("swap;pass 1x;", 5, 1, -4);
        s.faults("swap;lend 0 9;", 5, 2, -1);
        s.faults("swap;back 0;x", 5, 2, -2);
        s.faults("swap;x;back 0;", 5, 1, -4);
        s.faults("back 0;pass 0;", 0, 2, -2);
        s.faults("pass 0;back 0;", 0, 2, -1);
        s.faults("pass 001;lend 000 000;x", 22, 1, -4);
        s.faults("swap;".repeat(15) + "x", 75, 1, -4);
        s.faults("swap;".repeat(15) + "pa", 75, 1, -4);
        s.faults("swap;".repeat(14) + "pass 0;", 70, 2, -1);
    }

    private static void thoseAheadAreDone() {
        s.of("Texts", "when those ahead of it are done");
        s.hall(2, 0, 1);
        s.faults("back 0;", 0, 2, -2);
        s.plays("lend 0 0;back 0;", 2);
        s.faults("lend 0 0;back 0;back 0;", 16, 2, -2);
        s.faults("lend 0 0;lend 0 0;", 9, 2, -2);
        s.plays("lend 0 0;lend 1 1;wish 0 1;wish 1 0;swap;wish 0 0;wish 1 1;", 7);
        s.faults("lend 0 0;lend 1 1;wish 0 1;wish 1 0;swap;wish 0 1;", 41, 2, -2);
        s.plays("lend 0 0;pass 11;pay 0 1;", 3);
        s.faults("lend 0 0;pass 11;pay 0 2;", 17, 2, -2);
        s.faults("lend 0 0;pass 11;renew 0;", 17, 2, -2);
        s.plays("lend 0 0;pass 10;renew 0;", 3);
        // Done to try only; and the text is looked at in the present state each time.
        s.types("lend 0 0;");
        s.calls("fault(0) = -4; count(4) = 0; lend(0, 1) = 1; fault(0) = 0; fault(1) = 2; fault(2) = -2; giveBack(0) = 0; "
            + "fault(0) = -4");
        s.calls("play() = 1; fault(0) = 0; play() = -2; undo() = 3; fault(0) = -4");
    }

    private static void reasons() {
        s.of("Texts", "its reason is 1 if it is not of this form, its \";\" included, and otherwise 2");
        s.hall(1, 0);
        // What would be refused is of no account as long as it is not of the form.
        s.faults("back 0", 0, 1, -4);
        s.faults("back 0;", 0, 2, -2);
        s.faults("pass 0", 0, 1, -4);
        s.faults("pass 0;", 0, 2, -1);
        s.faults("lend 7 0 ;", 0, 1, -4);
        s.faults("lend 7 0;", 0, 2, -1);
        s.faults("pay 0 1000;", 0, 1, -4);
        s.faults("pay 0 999;", 0, 2, -2);
    }

    private static void causes() {
        s.of("Texts", "its cause is then the error code that the call returns for it.");
        s.hall(3, 0, 1);
        s.calls("lend(0, 0) = 0; renew(0) = 20; renew(0) = 30; lend(1, 0) = 101");
        s.faults("lend 3 0;", 0, 2, -1);
        s.faults("lend 0 0;", 0, 2, -2);
        s.faults("lend 1 1;", 0, 2, -2);
        s.faults("back 3;", 0, 2, -1);
        s.faults("back 2;", 0, 2, -2);
        s.faults("renew 3;", 0, 2, -1);
        s.faults("renew 0;", 0, 2, -2);
        s.faults("back 1;renew 0;", 7, 2, -3);
        s.faults("lose 3;", 0, 2, -1);
        s.faults("lose 1;", 0, 2, -2);
        s.faults("wish 3 1;", 0, 2, -1);
        s.faults("wish 0 0;", 0, 2, -2);
        s.faults("wish 1 1;", 0, 2, -2);
        s.faults("pay 3 1;", 0, 2, -1);
        s.faults("pay 0 1;", 0, 2, -2);
        s.faults("pass 100;", 0, 2, -1);
        s.calls("50 x pass(99)", "count(2) = 4950");
        s.plays("pass 50;", 1);
        s.faults("pass 51;", 0, 2, -3);
        s.faults("pass 99;", 0, 2, -3);
        s.faults("pass 25;pass 25;pass 1;", 16, 2, -3);
    }

    private static void type() {
        s.of("Promise 24: type", "Returns the length of the text; INVALID_ARGUMENT if character is out of range; "
            + "LIMIT_REACHED if it has 80 characters.");
        s.changesNothing("type(31) = -1; type(127) = -1; type(0) = -1; type(-1) = -1; type(MIN) = -1; type(MAX) = -1; "
            + "type(256) = -1");
        // '0', 'd' and '0', if they were cut to 16 bits.
        s.changesNothing("type(65584) = -1; type(131172) = -1; type(-65488) = -1");
        s.calls("type(32) = 1; type(126) = 2; count(13) = 2; count(12) = 0");
        for (int i = 3; i <= 79; i++) {
            s.calls("type(" + (32 + i) + ") = " + i);
        }
        s.changesNothing("type(31) = -1; type(127) = -1");
        s.calls("type(59) = 80");
        s.changesNothing("type(32) = -3; type(126) = -3; type(31) = -1; type(127) = -1; type(MAX) = -1");
        s.calls("clearText() = 80; type(97) = 1");
    }

    private static void clearText() {
        s.of("Promise 25: clearText", "Returns the length it had.");
        s.changesNothing("clearText() = 0");
        s.calls("type(97) = 1; clearText() = 1; count(13) = 0; fault(0) = -4; clearText() = 0; 80 x type(59); "
            + "clearText() = 80");
        s.changesNothing("clearText() = 0");
        // Nothing of what stood behind the end is read.
        s.types("swap;");
        s.types("swap");
        s.changesNothing("fault(0) = 0; fault(1) = 1; fault(2) = -4; play() = -2");
        s.types("pass 12;");
        s.types("pass 1");
        s.changesNothing("fault(0) = 0; fault(1) = 1; play() = -2");
        // What stood there does not come back, and no state of the history has the text.
        s.types("swap;swap;");
        s.calls("clearText() = 10; type(115) = 1; fault(0) = 0; fault(1) = 1; person() = 0; undo() = 0; count(13) = 1; "
            + "count(12) = 0");
    }

    private static void fault() {
        s.of("Promise 26: fault", "Returns that; INVALID_ARGUMENT if what is out of range");
        String[] texts = {"", "swap;", "x", "pass 0;"};
        for (String text : texts) {
            s.hall(0);
            s.types(text);
            s.changesNothing("fault(-1) = -1; fault(3) = -1; fault(MIN) = -1; fault(MAX) = -1");
        }
    }

    private static void faultNotFound() {
        s.of("Promise 26: fault", "NOT_FOUND if the text has no fault (also if it is empty), for 2 if its reason is 1.");
        s.changesNothing("fault(0) = -4; fault(1) = -4; fault(2) = -4");
        s.types("swap;pass 1;");
        s.changesNothing("fault(0) = -4; fault(1) = -4; fault(2) = -4");
        s.types("swap;pass 1;x");
        s.changesNothing("fault(0) = 12; fault(1) = 1; fault(2) = -4");
        s.types("swap;pass 1;pass 0;");
        s.changesNothing("fault(0) = 12; fault(1) = 2; fault(2) = -1");
        // A fault that was told does not stay when the text is another one.
        s.types("swap;");
        s.changesNothing("fault(2) = -4; fault(1) = -4; fault(0) = -4");
        s.types("x");
        s.changesNothing("fault(2) = -4; fault(0) = 0; fault(1) = 1");
    }

    private static void play() {
        s.of("Promise 27: play", "Returns how many there are in it; NOT_POSSIBLE if it has a fault.");
        s.changes("play() = 0");
        s.hall(1, 0);
        s.types("pass 5;lend 0 0;back 0;x");
        s.changesNothing("play() = -2");
        s.calls("count(2) = 0; lockerOf(0, 6) = 0");
        s.types("pass 5;lend 0 0;back 0;back 0;");
        s.changesNothing("play() = -2");
        s.types("pass 5;lend 0 0;back 0;");
        s.changes("play() = 3; play() = 3");
        s.calls("count(2) = 10; lockerOf(0, 6) = 2; count(13) = 23");
    }

    private static void playIsOneChange() {
        s.of("Promise 27: play", "Does all commands of the text, which stays. They are one change, also if there are none.");
        s.calls("count(12) = 0; play() = 0; count(12) = 1; undo() = 0; undo() = -2; person() = 0");
        s.types("pass 1;pass 2;pass 3;pass 4;pass 5;");
        s.calls("play() = 5; count(12) = 2; count(2) = 15; count(13) = 35; undo() = 1; count(2) = 0; count(13) = 35; "
            + "play() = 5; count(2) = 15");
        s.calls("play() = 5; play() = 5; count(12) = 4; clearText() = 35; play() = 0; count(12) = 4; undo() = 3; "
            + "count(2) = 45");
        s.calls("undo() = 2; count(2) = 30; undo() = 1; count(2) = 15; undo() = 0; count(2) = 0; count(1) = 1; undo() = -2; "
            + "count(13) = 0");
    }

    private static void playOfEachCommand() {
        s.of("Promise 27: play", "Does all commands of the text");
        s.hall(3, 0, 1, 2);
        s.types("lend 0 0;lend 1 1;lend 2 3;wish 0 1;wish 1 2;wish 2 0;swap;");
        s.calls("play() = 7; personOf(0, 0) = 1; personOf(1, 0) = 2; personOf(2, 0) = 0; count(11) = 3; count(7) = 0");
        s.types("lose 2;pay 2 4;renew 1;back 0;pass 12;");
        s.calls("play() = 5; personOf(2, 8) = 1; personOf(2, 4) = 3; personOf(2, 5) = 4; personOf(1, 1) = 20; "
            + "personOf(0, 0) = -4; count(2) = 12");
        s.types("back 2;lend 2 3;lend 0 2;wish 1 0;swap;");
        s.calls("play() = 5; personOf(2, 0) = 0; personOf(0, 7) = 0; personOf(1, 6) = 0; lend(2, 0) = -2; waitingAt(0, 1) = 2");
    }
}
