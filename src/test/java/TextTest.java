/** Promises 32 to 34. */
public final class TextTest {
    public static void main(String[] args) {
        feed();
        wipe();
        ships();
        otherItems();
        tokens();
        faults();
        faultsChangeNothing();
        thirteenth();
        longest();
        Due.end();
    }

    private static void feed() {
        AnchorString x = new AnchorString();
        Due.due("32 feed(.., 0)", x.feed(1, 0), Due.BEYOND);
        Due.due("32 feed(.., 5)", x.feed(1, 5), Due.BEYOND);
        Due.due("32 feed(.., -1)", x.feed(1, -1), Due.BEYOND);
        Due.due("32 feed(\"sh\")", x.feed(0x7f7f7368, 2), 2);
        Due.due("32 feed(\"ip \")", x.feed(0x7f697020, 3), 5);
        Due.due("32 feed(\"at 3\")", x.feed(0x61742033, 4), 9);
        Due.due("32 feed(\";\")", x.feed(0x6161613b, 1), 10);
        Due.due("32 feed(\"ship\")", x.feed(0x73686970, 4), 14);
        Due.due("34 text()", x.text(), 2);
        Due.due("34 of(0, 4)", x.of(0, 4), 103);
        for (int k = 1; k <= 29; k++) {
            Due.due("32 feed, four", x.feed(0x20202020, 4), 4 * k);
        }
        Due.due("32 feed, to 119", x.feed(0x20202020, 3), 119);
        Due.due("32 feed, above 120", x.feed(0x20202020, 2), Due.FULL);
        Due.due("32 feed(.., 5), though full", x.feed(0, 5), Due.BEYOND);
        Due.due("32 feed, to 120", x.feed(0x20202020, 1), 120);
        Due.due("32 feed, to 121", x.feed(0x20202020, 1), Due.FULL);
        Due.due("44 count(2)", x.count(2), 120);
        Due.due("45 status(1)", x.status(1), 2);
        Due.due("34 text(), blanks alone", x.text(), -121);
        Due.due("44 count(2)", x.count(2), 0);
    }

    private static void wipe() {
        AnchorString x = new AnchorString();
        Due.due("33 wipe()", x.wipe(), 0);
        Due.feed(x, "tall;what");
        Due.due("33 wipe()", x.wipe(), 9);
        Due.due("33 wipe()", x.wipe(), 0);
        Due.due("34 text(), empty", x.text(), -1);
        Due.due("34 text(), as if it had never been", Due.text(x, "ship"), 1);
        Due.due("34 of(0, 0)", x.of(0, 0), 0);
    }

    private static void ships() {
        AnchorString x = new AnchorString();
        Due.due("34 kinds", Due.text(x, "ship;tall;towed;dragging;burning;smuggler"), 6);
        for (int s = 0; s < 6; s++) {
            Due.same("34 a ship as at first", row(x, s), s + " 10 50 0 -1");
        }
        Due.due("34 ships", Due.text(x, "tall size 1 bears 0 worn 0 on 5; towed size 99 bears 9999 worn 99 at 0"), 2);
        Due.same("34 ship 6", row(x, 6), "1 1 0 0 5");
        Due.same("34 ship 7", row(x, 7), "2 99 9999 99 100");
        Due.due("34 ships", Due.text(x, "ship bears 7 on 7;ship worn 4;ship size 3 worn 5 at 5;ship size 8 on 10"), 4);
        Due.same("34 ship 8", row(x, 8), "0 10 7 0 7");
        Due.same("34 ship 9", row(x, 9), "0 10 50 4 -1");
        Due.same("34 ship 10", row(x, 10), "0 3 50 5 105");
        Due.same("34 ship 11", row(x, 11), "0 8 50 0 10");
        Due.due("34 count(0)", x.count(0), 12);
        Due.due("34 status(-1)", x.status(-1), 0);
    }

    private static String row(AnchorString x, int s) {
        StringBuilder b = new StringBuilder();
        for (int what = 0; what < 5; what++) {
            b.append(what == 0 ? "" : " ").append(x.of(s, what));
        }
        return b.toString();
    }

    private static void otherItems() {
        AnchorString x = new AnchorString();
        Due.due("34 anchors", Due.text(x, "anchor 0 0; anchor 5 9999; anchor 5 9998"), 3);
        Due.due("34 anchorOf(0, 0)", x.anchorOf(0, 0), 0);
        Due.due("34 anchorOf(5, 0)", x.anchorOf(5, 0), 9998);
        Due.due("34 odds", Due.text(x, "odds 0 99; odds 12 0; odds 3 5"), 3);
        Due.due("34 odds(0, 0)", x.odds(0, 0), 99);
        Due.due("34 odds(12, 0)", x.odds(12, 0), 0);
        Due.due("34 odds(3, 0)", x.odds(3, 0), 5);
        Due.due("34 hang", Due.text(x, "ship; ship; hang 0 on 1; hang 1 at 5; ship on 0; hang 2 on 1"), 6);
        Due.due("34 of(0, 4)", x.of(0, 4), 1);
        Due.due("34 of(1, 4)", x.of(1, 4), 105);
        Due.due("34 of(2, 4)", x.of(2, 4), 1);
        Due.due("34 hang round, link by link", Due.text(x, "hang 0 at 0; hang 1 on 0"), 2);
        Due.due("34 of(1, 4)", x.of(1, 4), 0);
        Due.due("34 a text adds to what there is", x.count(0), 3);
        Due.due("34 hour and wind stay", x.now(0), 0);
    }

    private static void tokens() {
        AnchorString x = new AnchorString();
        Due.due("34 no blanks", Due.text(x, "ship size9bears8worn7at5;ship on0;anchor1 2"), 3);
        Due.same("34 ship 0", row(x, 0), "0 9 8 7 105");
        Due.same("34 ship 1", row(x, 1), "0 10 50 0 0");
        Due.due("34 blanks", Due.text(x, "   ship   size   5   ;   ship   "), 2);
        Due.due("34 zeros ahead", Due.text(x, "ship size 0000000000000000000000099 bears 009999 on 000"), 1);
        Due.same("34 ship 4", row(x, 4), "0 99 9999 0 0");
        Due.due("34 as long as can be", Due.text(x, "shipsize 5"), -1);
        Due.due("34 as long as can be", Due.text(x, "ship size 5 0"), -13);
        Due.due("34 capitals", Due.text(x, "Ship"), -1);
        Due.due("34 capitals", Due.text(x, "shiP"), -1);
        Due.due("34 tabs are no blanks", Due.text(x, "ship\tsize 5"), -5);
        Due.due("34 byte 0", Due.text(x, "ship\0"), -5);
        Due.due("34 byte 255", Due.text(x, "ship \u00ff"), -6);
        Due.due("34 signs next to letters", Due.text(x, "`"), -1);
        Due.due("34 signs next to letters", Due.text(x, "{"), -1);
        Due.due("34 signs next to digits", Due.text(x, "ship size /"), -11);
        Due.due("34 signs next to digits", Due.text(x, "ship size :"), -11);
        Due.due("34 above what an int holds", Due.text(x, "ship bears 42949672960000000000001"), -12);
        Due.due("34 above what an int holds", Due.text(x, "ship bears 4294967297"), -12);
    }

    private static void fault(String text, int place) {
        AnchorString x = Due.told("ship; ship on 0; ship on 1");
        Due.due("34 fault in '" + text + "'", Due.text(x, text), -1 - place);
        Due.due("34 no finding", x.status(-1), 0);
        Due.due("34 tape is empty", x.count(2), 0);
        Due.due("34 no ship came", x.count(0), 3);
    }

    private static void faults() {
        fault("", 0);
        fault("  ", 2);
        fault(";", 0);
        fault("ship;", 5);
        fault("ship; ", 6);
        fault("ship;;ship", 5);
        fault("ship ship", 5);
        fault("5", 0);
        fault("size 5", 0);
        fault("boat", 0);
        fault("shi", 0);
        fault("xhip", 0);
        fault("ball", 0);
        fault("ship in 0", 5);
        fault("ship it 0", 5);
        fault("ship sizf 5", 5);
        fault("ships", 0);
        fault("ship size", 9);
        fault("ship size ", 10);
        fault("ship size 0", 10);
        fault("ship size 100", 10);
        fault("ship size size", 10);
        fault("ship size ;", 10);
        fault("ship bears 10000", 11);
        fault("ship bears", 10);
        fault("ship worn 100", 10);
        fault("ship worn x", 10);
        fault("ship bears 5 size 5", 13);
        fault("ship worn 5 bears 5", 12);
        fault("ship at 0 worn 5", 10);
        fault("ship size 5 size 5", 12);
        fault("ship on 0 at 0", 10);
        fault("ship at 0 on 0", 10);
        fault("ship on 3", 8);
        fault("ship on 4", 8);
        fault("ship on", 7);
        fault("ship on at", 8);
        fault("ship at 6", 8);
        fault("ship at", 7);
        fault("ship at on", 8);
        fault("ship anchor", 5);
        fault("ship 5", 5);
        fault("ship; ship on 4", 14);
        fault("anchor", 6);
        fault("anchor 6 5", 7);
        fault("anchor 0", 8);
        fault("anchor 0 10000", 9);
        fault("anchor x 5", 7);
        fault("anchor 0 ; 5", 9);
        fault("anchor 0 5 5", 11);
        fault("odds", 4);
        fault("odds 13 5", 5);
        fault("odds 12 100", 8);
        fault("odds 12", 7);
        fault("odds 12 5 ship", 10);
        fault("hang", 4);
        fault("hang 3 at 0", 5);
        fault("hang on 0", 5);
        fault("hang 0", 6);
        fault("hang 0 0", 7);
        fault("hang 0 size 0", 7);
        fault("hang 0 on", 9);
        fault("hang 0 on 0", 10);
        fault("hang 0 on 1", 10);
        fault("hang 0 on 2", 10);
        fault("hang 0 on 3", 10);
        fault("hang 0 at 6", 10);
        fault("hang 0 at x", 10);
        fault("hang 0 on size", 10);
        fault("hang 0 at 0 on 1", 12);
        fault("hang 1 at 0; hang 0 on 2; hang 1 on 2", 36);
        fault("ship; hang 3 on 2; hang 0 on 3", 29);
        fault("ship ?; boat", 5);
        fault("boat ?", 0);
    }

    private static void faultsChangeNothing() {
        String start = "ship at 0; tall on 0; odds 3 9; anchor 2 55";
        String before = Due.look(Due.told(start));
        AnchorString x = Due.told(start);
        Due.due("34 fault", Due.text(x, "anchor 2 5; odds 3 4; hang 1 at 3; ship size 5; hang 0 on 2; boat"), -62);
        Due.same("34 fault", Due.look(x), before);
        x = Due.told("ship");
        Due.due("34 a ship there by then alone", Due.text(x, "hang 0 on 1; ship"), -11);
        Due.due("34 a ship there by then", Due.text(x, "ship; hang 0 on 1"), 2);
    }

    private static void thirteenth() {
        AnchorString x = Due.told("ship;ship;ship;ship;ship;ship;ship;ship;ship;ship;ship");
        Due.due("34 a 13th", Due.text(x, "ship; tall size 0"), -7);
        Due.due("34 count(0)", x.count(0), 11);
        Due.due("34 a 12th", Due.text(x, "ship size 5"), 1);
        Due.due("34 a 13th", Due.text(x, "anchor 0 5; ship"), -13);
        Due.due("34 none", Due.text(x, "anchor 0 5; hang 11 on 10"), 2);
    }

    private static void longest() {
        AnchorString x = new AnchorString();
        StringBuilder b = new StringBuilder();
        for (int k = 0; k < 10; k++) {
            b.append("odds ").append(k).append(" 12;");
        }
        b.append("odds 9 13 ");
        while (b.length() < 120) {
            b.append(' ');
        }
        Due.due("34 120 bytes", Due.text(x, b.toString()), 11);
        Due.due("34 count(3)", x.count(3), 9 * 12 + 13 + 3);
        StringBuilder bad = new StringBuilder();
        for (int k = 0; k < 120; k++) {
            bad.append(k == 0 ? "a" : ";");
        }
        Due.due("34 120 tokens", Due.text(x, bad.toString()), -1);
        StringBuilder signs = new StringBuilder("odds 1 0");
        while (signs.length() < 120) {
            signs.append(";");
        }
        Due.due("34 as many tokens as can be", Due.text(x, signs.toString()), -10);
        StringBuilder zeros = new StringBuilder("odds 1 ");
        while (zeros.length() < 119) {
            zeros.append("0");
        }
        Due.due("34 a long number", Due.text(x, zeros.append("7").toString()), 1);
        Due.due("34 odds(1, 0)", x.odds(1, 0), 7);
    }
}
