/** Boundary cases of promises 32 to 34, and of THE TEXT in the Terms; those of refused calls stand in RefusalsTest. */
public final class TextEdgesTest {
    public static void main(String[] args) {
        feedEachLength();
        feedHighestFirst();
        feedToTheLastByte();
        wipe();
        emptyTape();
        blanks();
        wordsAsLongAsCanBe();
        numbersAsLongAsCanBe();
        numbers9999AtMost();
        bytesThatBeginNoToken();
        oneItemAndMany();
        sizes();
        bears();
        worn();
        onAShipAhead();
        atAnAnchor();
        perhapsInOrder();
        anchors();
        hangAShipByThen();
        hangOnAnother();
        hangNoRing();
        odds();
        anotherWord();
        aNumberForAWord();
        endsTooEarly();
        firstFaultAlone();
        thirteenth();
        mostTokens();
        faultInTheLastByte();
        faultChangesNothing();
        tapeIsEmptyThen();
        Due.end();
    }

    private static void fine(String text, int items) {
        Due.due("34 '" + text + "'", Due.text(three(), text), items);
    }

    private static void fault(String text, int place) {
        AnchorString x = three();
        Due.due("34 '" + text + "'", Due.text(x, text), -1 - place);
        Due.due("34 no finding for '" + text + "'", x.status(-1), 0);
    }

    /** Three ships: 0 adrift, 1 on 0, 2 on 1. */
    private static AnchorString three() {
        return Due.told("ship; ship on 0; ship on 1");
    }

    /** "the n lowest bytes of a number behind it (n 1 to 4): how many it has" */
    private static void feedEachLength() {
        AnchorString x = new AnchorString();
        Due.due("32 n 0", x.feed(0x73686970, 0), Due.BEYOND);
        Due.due("32 n 5", x.feed(0x73686970, 5), Due.BEYOND);
        Due.due("32 n 1", x.feed(0x73, 1), 1);
        Due.due("32 n 2", x.feed(0x6869, 2), 3);
        Due.due("32 n 3", x.feed(0x703b74, 3), 6);
        Due.due("32 n 4", x.feed(0x616c6c20, 4), 10);
        Due.due("34 ship;tall", x.text(), 2);
        Due.due("34 of(1, 0)", x.of(1, 0), 1);
    }

    /** "the highest of these first": and of bytes above 127 nothing runs over into the next. */
    private static void feedHighestFirst() {
        AnchorString x = new AnchorString();
        x.feed(0x41736869, 3);
        x.feed(0x41424370, 1);
        Due.due("34 the lowest bytes alone", x.text(), 1);
        x.feed(0x73686970, 4);
        x.feed(-1, 1);
        Due.due("34 a byte 255 behind a word", x.text(), -5);
        x.feed(0x736869f0, 4);
        Due.due("34 a byte 240 for a letter", x.text(), -1);
        x.feed(0x80000000, 4);
        Due.due("34 a byte 128 first", x.text(), -1);
        x.feed(0x20800020, 4);
        Due.due("34 a byte 128 behind a blank", x.text(), -2);
        x.feed(0x73686970 - 0x100, 4);
        Due.due("34 'shhp'", x.text(), -1);
    }

    /** "THE TAPE (bytes, at most 120)"; "FULL." */
    private static void feedToTheLastByte() {
        for (int n = 1; n <= 4; n++) {
            AnchorString x = new AnchorString();
            for (int k = 4; k <= 116; k += 4) {
                Due.due("32 to " + k, x.feed(0x20202020, 4), k);
            }
            if (n < 4) {
                Due.due("32 to " + (120 - n), x.feed(0x20202020, 4 - n), 120 - n);
            }
            Due.due("32 one too many", x.feed(0x20202020, n + 1), n < 4 ? Due.FULL : Due.BEYOND);
            Due.due("32 the last " + n, x.feed(0x20202020, n), 120);
            Due.due("32 a 121st", x.feed(0x20202020, 1), Due.FULL);
            Due.due("32 four more", x.feed(0x20202020, 4), Due.FULL);
            Due.due("44 count(2)", x.count(2), 120);
        }
    }

    /** "THE TAPE is empty: how many it had." */
    private static void wipe() {
        AnchorString x = new AnchorString();
        Due.due("33 none", x.wipe(), 0);
        x.feed(32, 1);
        Due.due("33 one", x.wipe(), 1);
        Due.due("33 none again", x.wipe(), 0);
        for (int k = 0; k < 30; k++) {
            x.feed(0x20202020, 4);
        }
        Due.due("33 as many as can be", x.wipe(), 120);
        Due.due("33 there is room again", x.feed(0x73686970, 4), 4);
        Due.due("34 text()", x.text(), 1);
        Due.due("33 behind a text", x.wipe(), 0);
    }

    /** "how many bytes there are if it ends too early": none. */
    private static void emptyTape() {
        AnchorString x = new AnchorString();
        Due.due("34 nothing", x.text(), -1);
        Due.due("34 nothing again", x.text(), -1);
        Due.due("34 no finding", x.status(-1), 0);
        x.feed(32, 1);
        Due.due("34 a blank", x.text(), -2);
        for (int k = 0; k < 30; k++) {
            x.feed(0x20202020, 4);
        }
        Due.due("34 120 blanks", x.text(), -121);
    }

    /** "blanks may stand between": none, one, many. */
    private static void blanks() {
        fine("ship;ship", 2);
        fine("ship size5bears6worn7on2;odds0 9", 2);
        fine(" ship", 1);
        fine("ship ", 1);
        fine("    ship    size    5    ;    anchor    0    0    ", 2);
        fault("sh ip", 0);
        fault("ship si ze 5", 5);
        fault("anchor 0 1 2", 11);
        fault("ship\tsize 5", 4);
        fault("ship\n;ship", 4);
        fault("ship\r", 4);
    }

    /** "TOKENS, each as long as can be: WORDS (letters a to z)" */
    private static void wordsAsLongAsCanBe() {
        fault("shiptall", 0);
        fault("shipsize 5", 0);
        fault("ship atat 0", 5);
        fault("ship ona 0", 5);
        fault("shi", 0);
        fault("a", 0);
        fault("z", 0);
        fault("ship sizez 5", 5);
        fine("ship size 5at 0", 1);
        fine("ship at 0;tall", 2);
        fault("Ship", 0);
        fault("sHip", 0);
        fault("ship Size 5", 5);
    }

    /** "NUMBERS (digits ..)": as long as can be, too. */
    private static void numbersAsLongAsCanBe() {
        fault("odds 1212", 5);
        fault("odds 12 990", 8);
        fine("odds 12 99", 1);
        fine("odds 12 099", 1);
        fine("odds 0012 0000000000000000000000000000099", 1);
        fault("ship size -5", 10);
        fault("ship size +5", 10);
        fault("ship size 5.0", 11);
        AnchorString x = new AnchorString();
        Due.text(x, "anchor 3 0123456789");
        Due.due("34 no digit is left out", x.anchorOf(3, 0), 100);
        Due.due("34 each digit counts", Due.text(x, "anchor 3 9876;anchor 4 5432;anchor 5 10"), 3);
        Due.due("34 9876", x.anchorOf(3, 0), 9876);
        Due.due("34 5432", x.anchorOf(4, 0), 5432);
        Due.due("34 10", x.anchorOf(5, 0), 10);
    }

    /** "(.. 9999 at most)": also of numbers that an int or a long would wrap around. */
    private static void numbers9999AtMost() {
        fine("anchor 0 9999", 1);
        fault("anchor 0 10000", 9);
        fault("anchor 0 99999", 9);
        fault("anchor 0 2147483648", 9);
        fault("anchor 0 4294967296", 9);
        fault("anchor 0 4294967300", 9);
        fault("anchor 0 18446744073709551616", 9);
        fault("anchor 0 18446744073709551617", 9);
        fault("anchor 0 10000000000000000000000000000000000000000000000000000000000000000000000000", 9);
        fault("anchor 4294967296 5", 7);
        fault("ship at 4294967296", 8);
        fault("hang 4294967296 at 0", 5);
    }

    /** "a byte that begins no TOKEN": the neighbours of letters, digits and the sign, and the outermost. */
    private static void bytesThatBeginNoToken() {
        for (int b : new int[] {0, 1, 31, 33, 47, 58, 60, 64, 91, 96, 123, 127, 128, 160, 187, 225, 254, 255}) {
            String odd = String.valueOf((char) b);
            fault(odd, 0);
            fault("ship" + odd, 4);
            fault("ship size " + odd, 10);
            fault("ship;" + odd + "ship", 5);
            fault("odds 1 2" + odd, 8);
            fault("odds 1" + odd + " 2", 6);
            fault("odds 1 " + odd + "2", 7);
            fault("ship size" + odd + " 2", 9);
        }
    }

    /** "TEXT: ITEM { ; ITEM }." */
    private static void oneItemAndMany() {
        fine("ship", 1);
        fine("odds 1 2;odds 1 2;odds 1 2;odds 1 2;odds 1 2;odds 1 2;odds 1 2;odds 1 2;odds 1 2;odds 1 2;odds 1 2;odds 1 2;odds 1 2", 13);
        fault(";", 0);
        fault(";ship", 0);
        fault("ship;", 5);
        fault("ship;;ship", 5);
        fault("ship;ship;", 10);
        fault("ship ship", 5);
        fault("odds 1 2 odds 1 2", 9);
        fault("ship 5", 5);
    }

    /** "perhaps size and a NUMBER (1 to 99)" */
    private static void sizes() {
        fine("ship size 1", 1);
        fine("ship size 99", 1);
        fault("ship size 0", 10);
        fault("ship size 100", 10);
        AnchorString x = Due.told("tall; tall size 1; tall size 99");
        Due.due("34 size, not told", x.of(0, 1), 10);
        Due.due("34 size 1", x.of(1, 1), 1);
        Due.due("34 size 99", x.of(2, 1), 99);
    }

    /** "perhaps bears and a NUMBER (0 to 9999)" */
    private static void bears() {
        fine("ship bears 0", 1);
        fine("ship bears 9999", 1);
        fault("ship bears 10000", 11);
        AnchorString x = Due.told("tall; tall bears 0; tall bears 9999");
        Due.due("34 bears, not told", x.of(0, 2), 50);
        Due.due("34 bears 0", x.of(1, 2), 0);
        Due.due("34 bears 9999", x.of(2, 2), 9999);
    }

    /** "perhaps worn and a NUMBER (0 to 99)" */
    private static void worn() {
        fine("ship worn 0", 1);
        fine("ship worn 99", 1);
        fault("ship worn 100", 10);
        AnchorString x = Due.told("tall; tall worn 0; tall worn 99");
        Due.due("34 worn, not told", x.of(0, 3), 0);
        Due.due("34 worn 0", x.of(1, 3), 0);
        Due.due("34 worn 99", x.of(2, 3), 99);
    }

    /** "perhaps on and a NUMBER (a SHIP there ahead of it)" */
    private static void onAShipAhead() {
        fine("ship on 0", 1);
        fine("ship on 2", 1);
        fault("ship on 3", 8);
        fault("ship on 4", 8);
        fault("ship on 12", 8);
        fault("ship on 100", 8);
        fine("ship;ship on 3", 2);
        fault("ship;ship on 4", 13);
        fault("ship on 4;ship", 8);
        Due.due("34 no ship is there", Due.text(new AnchorString(), "ship on 0"), -9);
        Due.due("34 one is there", Due.text(new AnchorString(), "ship;ship on 0"), 2);
        AnchorString x = Due.ships(11, 0, 10);
        Due.due("34 the twelfth on itself", Due.text(x, "ship on 11"), -9);
        Due.due("34 the twelfth on the last", Due.text(x, "ship on 10"), 1);
        Due.due("34 of(11, 4)", x.of(11, 4), 10);
    }

    /** "or at and a NUMBER (an ANCHOR, 0 to 5)" */
    private static void atAnAnchor() {
        fine("ship at 0", 1);
        fine("ship at 5", 1);
        fault("ship at 6", 8);
        fault("ship at 100", 8);
        fault("ship at 105", 8);
        fault("ship at 0 on 0", 10);
        fault("ship on 0 at 0", 10);
        fault("ship at 0 at 0", 10);
        AnchorString x = Due.told("ship; ship at 0; ship at 5; ship on 0");
        Due.due("34 not told", x.of(0, 4), -1);
        Due.due("34 at 0", x.of(1, 4), 100);
        Due.due("34 at 5", x.of(2, 4), 105);
        Due.due("34 on 0", x.of(3, 4), 0);
    }

    /** "perhaps size .., perhaps bears .., perhaps worn .., perhaps on ..": each may lack, none may stand elsewhere or twice. */
    private static void perhapsInOrder() {
        String[] parts = {" size 7", " bears 8", " worn 9", " at 4"};
        for (int set = 0; set < 16; set++) {
            StringBuilder b = new StringBuilder("ship");
            for (int k = 0; k < 4; k++) {
                b.append((set >> k & 1) == 1 ? parts[k] : "");
            }
            AnchorString x = new AnchorString();
            Due.due("34 '" + b + "'", Due.text(x, b.toString()), 1);
            Due.due("34 size of '" + b + "'", x.of(0, 1), (set & 1) == 0 ? 10 : 7);
            Due.due("34 bears of '" + b + "'", x.of(0, 2), (set & 2) == 0 ? 50 : 8);
            Due.due("34 worn of '" + b + "'", x.of(0, 3), (set & 4) == 0 ? 0 : 9);
            Due.due("34 at of '" + b + "'", x.of(0, 4), (set & 8) == 0 ? -1 : 104);
        }
        for (int first = 0; first < 4; first++) {
            for (int second = 0; second <= first; second++) {
                String ahead = "ship" + parts[first];
                fault(ahead + parts[second], ahead.length() + 1);
            }
        }
    }

    /** "anchor, a NUMBER (0 to 5), a NUMBER (what it HOLDS)" */
    private static void anchors() {
        fine("anchor 0 0", 1);
        fine("anchor 5 9999", 1);
        fault("anchor 6 0", 7);
        fault("anchor 100 0", 7);
        fault("anchor 0 10000", 9);
        fault("anchor 6 10000", 7);
        AnchorString x = Due.told("anchor 0 0; anchor 5 9999; anchor 3 7; anchor 3 8");
        Due.due("34 anchor 0", x.anchorOf(0, 0), 0);
        Due.due("34 anchor 5", x.anchorOf(5, 0), 9999);
        Due.due("34 anchor 3, told twice", x.anchorOf(3, 0), 8);
        Due.due("34 anchor 4", x.anchorOf(4, 0), 100);
    }

    /** "hang, a NUMBER (a SHIP there by then)" */
    private static void hangAShipByThen() {
        fine("hang 0 at 0", 1);
        fine("hang 2 at 5", 1);
        fault("hang 3 at 0", 5);
        fault("hang 100 at 0", 5);
        fine("ship;hang 3 at 0", 2);
        fault("hang 3 at 0;ship", 5);
        fault("ship;hang 4 at 0", 10);
        fault("hang 2 at 6", 10);
        Due.due("34 no ship is there", Due.text(new AnchorString(), "hang 0 at 0"), -6);
        AnchorString x = Due.ships(12, 0, 10);
        Due.due("34 the twelfth", Due.text(x, "hang 11 at 5;hang 0 on 11"), 2);
        Due.due("34 of(11, 4)", x.of(11, 4), 105);
        Due.due("34 of(0, 4)", x.of(0, 4), 11);
        Due.due("34 a thirteenth", Due.text(x, "hang 12 at 5"), -6);
        Due.due("34 on a thirteenth", Due.text(x, "hang 11 on 12"), -12);
    }

    /** "on, a NUMBER (another one ..)" */
    private static void hangOnAnother() {
        fine("hang 2 on 0", 1);
        fine("hang 2 on 1", 1);
        fault("hang 2 on 2", 10);
        fault("hang 2 on 3", 10);
        fault("hang 0 on 0", 10);
        fault("hang 2 on 100", 10);
        fine("ship;hang 2 on 3", 2);
        fine("ship;hang 0 on 3", 2);
    }

    /** "(.. that doesn't HANG on it, by however many)" */
    private static void hangNoRing() {
        fault("hang 0 on 1", 10);
        fault("hang 0 on 2", 10);
        fault("hang 1 on 2", 10);
        fine("hang 2 at 0;hang 0 on 2", 2);
        fine("hang 1 at 0;hang 0 on 1", 2);
        fault("hang 1 at 0;hang 0 on 2;hang 1 on 0", 34);
        fault("ship on 2;hang 0 on 3", 20);
        AnchorString x = Due.ships(12, 0, 10);
        for (int s = 1; s < 12; s++) {
            x.hang(s, s - 1);
        }
        Due.due("34 by eleven", Due.text(x, "hang 0 on 11"), -11);
        Due.due("34 none of it", x.of(0, 4), -1);
    }

    /** "odds, a NUMBER (a WIND, 0 to 12), a NUMBER (0 to 99)" */
    private static void odds() {
        fine("odds 0 0", 1);
        fine("odds 12 99", 1);
        fault("odds 13 0", 5);
        fault("odds 0 100", 7);
        fault("odds 13 100", 5);
        AnchorString x = Due.told("odds 0 0; odds 12 99; odds 6 7; odds 6 8");
        Due.due("34 odds of 0", x.odds(0, 1), 0);
        Due.due("34 odds of 12", x.odds(12, 1), 99);
        Due.due("34 odds of 6, told twice", x.odds(6, 1), 8);
        Due.due("34 odds of 1", x.odds(1, 1), 1);
    }

    /** "another WORD": each word where it can't stand. */
    private static void anotherWord() {
        String[] names = {"ship", "tall", "towed", "dragging", "burning", "smuggler", "anchor", "hang", "odds"};
        String[] inside = {"size", "bears", "worn", "on", "at", "boat", "ships", "anchors"};
        for (String word : inside) {
            fault(word, 0);
            fault("ship;" + word + " 5", 5);
            fault("anchor 0 5 " + word, 11);
            fault("odds 0 5 " + word, 9);
            fault("hang 0 at 5 " + word, 12);
        }
        for (String name : names) {
            fault("ship " + name, 5);
            fault("ship size " + name, 10);
            fault("hang 0 " + name, 7);
            fault("hang 0 on " + name, 10);
            fault("anchor " + name, 7);
            fault("odds 0 " + name, 7);
        }
        for (String name : names) {
            fault("x" + name.substring(1) + " 0 0", 0);
            fault(name.substring(0, name.length() - 1) + "x 0 0", 0);
            fault(name.substring(0, name.length() - 1) + " 0 0", 0);
        }
        fault("hang 0 in 1", 7);
        fault("hang 0 an 1", 7);
        fault("hang 0 size 5", 7);
        fault("hang 0 bears 5", 7);
        fault("ship size on 0", 10);
    }

    /** "the first TOKEN that can't stand there": a NUMBER, whichever, where a WORD must. */
    private static void aNumberForAWord() {
        for (int n = 0; n <= 30; n++) {
            String number = String.valueOf(n);
            fault(number, 0);
            fault(number + " 0 5", 0);
            fault("ship " + number + " 2", 5);
            fault("ship size 5 " + number + " 2", 12);
            fault("ship size 5 bears 6 " + number + " 2", 20);
            fault("ship size 5 bears 6 worn 7 " + number + " 2", 27);
            fault("hang 0 " + number + " 2", 7);
            fault("ship " + number + " ship", 5);
        }
    }

    /** "how many bytes there are if it ends too early": at each place where it may, with blanks behind it. */
    private static void endsTooEarly() {
        String[] early = {"ship;", "ship size", "ship bears", "ship worn", "ship on", "ship at", "anchor", "anchor 0", "hang",
            "hang 0", "hang 0 on", "hang 0 at", "odds", "odds 0", "ship;odds 0 1;"};
        for (String text : early) {
            fault(text, text.length());
            fault(text + "   ", text.length() + 3);
        }
        StringBuilder b = new StringBuilder("ship size");
        while (b.length() < 120) {
            b.append(' ');
        }
        fault(b.toString(), 120);
    }

    /** "the first TOKEN that can't stand there" */
    private static void firstFaultAlone() {
        fault("ship size 0 boat ?", 10);
        fault("boat size 0", 0);
        fault("ship;boat;?", 5);
        fault("odds 13 100;ship size", 5);
        fault("ship size ? ", 10);
    }

    /** "the name of a KIND for a 13th: its own" */
    private static void thirteenth() {
        String[] names = {"ship", "tall", "towed", "dragging", "burning", "smuggler"};
        for (String name : names) {
            AnchorString x = Due.ships(12, 0, 10);
            Due.due("34 a 13th, " + name, Due.text(x, name), -1);
            Due.due("34 a 13th, " + name + ", whose size may not be", Due.text(x, name + " size 0"), -1);
            Due.due("34 a 13th behind another item", Due.text(x, "odds 0 5; " + name), -11);
            Due.due("34 other items are fine", Due.text(x, "odds 0 5"), 1);
            x = Due.ships(11, 0, 10);
            Due.due("34 a 12th, " + name, Due.text(x, name), 1);
            x = Due.ships(10, 0, 10);
            Due.due("34 a 12th and a 13th", Due.text(x, "ship;" + name + " on 10;" + name), -13 - name.length());
            Due.due("34 none came", x.count(0), 10);
        }
    }

    /** As many tokens as there can be bytes. */
    private static void mostTokens() {
        for (char c : new char[] {';', '?', (char) 255}) {
            StringBuilder b = new StringBuilder();
            while (b.length() < 120) {
                b.append(c);
            }
            fault(b.toString(), 0);
        }
        StringBuilder b = new StringBuilder("ship");
        while (b.length() < 120) {
            b.append(';');
        }
        fault(b.toString(), 5);
    }

    private static void faultInTheLastByte() {
        StringBuilder b = new StringBuilder("odds 3 7");
        while (b.length() < 119) {
            b.append(' ');
        }
        fault(b + ";", 120);
        fault(b + "5", 119);
        fault(b + "?", 119);
        fine(b + " ", 1);
        fine(b.toString(), 1);
        String blanks = " ".repeat(119);
        fault(blanks + "?", 119);
        fault(blanks + ";", 119);
        fault(blanks + "5", 119);
        fault(blanks + "a", 119);
        fault(blanks, 119);
    }

    /** "(nothing changes but that THE TAPE is empty; no finding)" */
    private static void faultChangesNothing() {
        String start = "ship at 0; tall on 0; odds 3 9; anchor 2 55";
        String[] faults = {"anchor 2 5;?", "odds 3 4;?", "hang 1 at 3;?", "hang 0 at 1;hang 1 at 0;?", "ship size 5 bears 6 worn 7 at 0;?",
            "ship;ship;ship;hang 0 on 3;boat", "anchor 2 5;anchor 2", "ship size 5 bears 6 worn 100"};
        AnchorString plain = Due.told(start);
        plain.image();
        String before = Due.look(plain);
        for (String text : faults) {
            AnchorString x = Due.told(start);
            x.image();
            Due.feed(x, text);
            Due.due("34 a fault in '" + text + "'", x.text() < 0 ? 1 : 0, 1);
            Due.due("34 no finding", x.status(-1), 0);
            Due.due("34 count(2)", x.count(2), 0);
            Due.same("34 '" + text + "'", Due.look(x), before);
        }
    }

    /** "whose ITEMS come to what there is, and empty then" */
    private static void tapeIsEmptyThen() {
        AnchorString x = three();
        Due.feed(x, "tall at 5");
        Due.due("34 one more", x.text(), 1);
        Due.due("34 count(2)", x.count(2), 0);
        Due.due("34 not again", x.text(), -1);
        Due.due("34 count(0)", x.count(0), 4);
        Due.due("34 those there stay", x.of(2, 4), 1);
        Due.due("34 hour and wind stay", x.now(0) + x.now(1), 0);
    }
}
