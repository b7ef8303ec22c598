/** Every boundary case that the document's Terms name, but for THE TEXT: a method for each sentence. */
public final class TermsEdgesTest {
    public static void main(String[] args) {
        findings();
        quotientsAreCut();
        setsAreToldByBits();
        anchorsHold();
        winds();
        hourIs9999AtMost();
        oddsOfEachWind();
        atMostTwelveShips();
        shipsAtFirst();
        sizes();
        chainsBear();
        worn();
        thingsToHangOn();
        noRing();
        noRingOfTwelve();
        pull();
        smugglerBelowFour();
        burning();
        strainOfOneAdrift();
        load();
        breaksAt();
        breaksAtOfSmuggler();
        chainPartsAboveAlone();
        firstPartsFirst();
        whatHangsOnItStays();
        tillThereIsNone();
        anchorDragsAboveAlone();
        anchorsAfterChains();
        eachAnchorOnce();
        hourTakesItsOwnWind();
        wornAboveHalfAlone();
        wornByStrainBehindSettle();
        wornIs99AtMost();
        string();
        depth();
        hold();
        sheets();
        Due.end();
    }

    /** "FINDINGS are answers below -1000000000: .. (in longs, too)": by their numbers. */
    private static void findings() {
        AnchorString x = Due.ships(12, 0, 10);
        Due.due("BEYOND", x.anchor(6, 0), -1000000001L);
        Due.due("FULL", x.ship(0, 10), -1000000002L);
        Due.due("KIND", x.as(0, 1), -1000000003L);
        Due.due("NONE", x.undo(), -1000000004L);
        Due.due("STATE", x.cut(0), -1000000005L);
        Due.due("MISSING", x.lays(0), -1000000006L);
        Due.due("SIZE", x.sheet(0, 8, -1), -1000000007L);
        Due.due("BEYOND in longs", x.write(4, 0, 0), -1000000001L);
        Due.due("MISSING in longs", x.write(0, 0, 0), -1000000006L);
    }

    /** "Quotients are cut." */
    private static void quotientsAreCut() {
        AnchorString x = Due.told("ship size 1; tall size 3; towed size 3; smuggler size 1 bears 51; smuggler bears 1");
        x.hour(1);
        Due.due("1 by 2", x.of(0, 5), 0);
        Due.due("3 by 2, and a half of 1", x.of(1, 5), 1);
        Due.due("half of 1", x.of(2, 5), 0);
        Due.due("half of 51", x.of(3, 7), 25);
        Due.due("half of 1, breaks", x.of(4, 7), 0);
    }

    /** "Sets are told by bits.": none, the first, the last, all. */
    private static void setsAreToldByBits() {
        AnchorString x = Due.ships(12, 0, 10);
        Due.due("all adrift", x.adrift(), 4095);
        for (int s = 0; s < 12; s++) {
            x.hang(s, 100);
        }
        Due.due("none adrift", x.adrift(), 0);
        x.hang(11, -1);
        Due.due("the last adrift", x.adrift(), 2048);
        x.hang(11, 100);
        x.hang(0, -1);
        Due.due("the first adrift", x.adrift(), 1);
    }

    /** "ANCHORS 0 to 5, each of which HOLDS so much (0 to 9999; 100 at first)." */
    private static void anchorsHold() {
        AnchorString x = new AnchorString();
        for (int a = 0; a < 6; a++) {
            Due.due("anchor " + a + " at first", x.anchorOf(a, 0), 100);
            Due.due("anchor " + a + " most", x.anchor(a, 9999), 100);
            Due.due("anchor " + a + " least", x.anchor(a, 0), 9999);
            Due.due("anchor " + a + " below", x.anchor(a, -1), Due.BEYOND);
            Due.due("anchor " + a + " above", x.anchor(a, 10000), Due.BEYOND);
            Due.due("anchor " + a, x.anchor(a, 10 + a), 0);
        }
        for (int a = 0; a < 6; a++) {
            Due.due("anchor " + a + ", each its own", x.anchorOf(a, 0), 10 + a);
        }
        Due.due("anchor -1", x.anchorOf(-1, 0), Due.BEYOND);
        Due.due("anchor 6", x.anchorOf(6, 0), Due.BEYOND);
    }

    /** "WIND: 0 to 12 (0 at first).": for each call that takes one. */
    private static void winds() {
        AnchorString x = Due.told("ship at 0");
        Due.due("WIND at first", x.now(1), 0);
        for (int w : new int[] {0, 12}) {
            Due.due("odds in wind " + w, x.odds(w, 1), 1);
            Due.due("would in wind " + w, x.would(w), w == 0 ? 0 : 1);
            Due.due("when in wind " + w, x.when(w), w == 0 ? Due.NONE : 1);
            Due.due("who in wind " + w, x.who(w), w == 0 ? Due.NONE : 0);
            Due.due("place in wind " + w, x.place(0, w), w == 0 ? 100 : Due.NONE);
            Due.due("canCut in wind " + w, x.canCut(0, w), 1);
            Due.due("bears in wind " + w, x.bears(0, w), w == 0 ? 0 : 60);
            Due.due("weakest in wind " + w, x.weakest(w), 0);
        }
        Due.due("hour of wind 0", x.hour(0), 0);
        Due.due("hour of wind 12", x.hour(12), 1);
        Due.due("WIND is 12", x.now(1), 12);
        Due.due("hours of wind 0", x.hours(1, 0), 0);
        Due.due("WIND is 0", x.now(1), 0);
        Due.due("hours of wind 12", x.hours(1, 12), 0);
        Due.due("status, NONE three times", x.status(-1), 3);
    }

    /** "HOUR: 0 at first (9999 at most)." */
    private static void hourIs9999AtMost() {
        AnchorString x = new AnchorString();
        Due.due("HOUR at first", x.now(0), 0);
        for (int k = 0; k < 99; k++) {
            x.hours(100, 0);
        }
        Due.due("HOUR is 9900", x.now(0), 9900);
        Due.due("99 more", x.hours(99, 3), 0);
        Due.due("HOUR is 9999", x.now(0), 9999);
        Due.due("one more", x.hour(4), Due.STATE);
        Due.due("HOUR stays", x.now(0), 9999);
        Due.due("WIND stays", x.now(1), 3);
    }

    /** "ODDS of each WIND (0 to 99; 1 at first)." */
    private static void oddsOfEachWind() {
        AnchorString x = new AnchorString();
        for (int w = 0; w < 13; w++) {
            Due.due("ODDS of " + w + " at first", x.odds(w, 99), 1);
            Due.due("ODDS of " + w + " least", x.odds(w, 0), 99);
            Due.due("ODDS of " + w + " below", x.odds(w, -1), Due.BEYOND);
            Due.due("ODDS of " + w + " above", x.odds(w, 100), Due.BEYOND);
            Due.due("ODDS of " + w, x.odds(w, 20 + w), 0);
        }
        for (int w = 0; w < 13; w++) {
            Due.due("ODDS of " + w + ", each its own", x.odds(w, 0), 20 + w);
        }
    }

    /** "SHIPS 0, 1, .. (at most 12)": by calls, and by calls and a text. */
    private static void atMostTwelveShips() {
        AnchorString x = new AnchorString();
        for (int s = 0; s < 12; s++) {
            Due.due("ship " + s, x.ship(0, 10), s);
        }
        Due.due("a 13th", x.ship(0, 10), Due.FULL);
        Due.due("a 13th by a text", Due.text(x, "ship"), -1);
        Due.due("twelve", x.count(0), 12);
        x = Due.ships(11, 0, 10);
        Due.due("a 12th by a text", Due.text(x, "ship"), 1);
        Due.due("a 13th", x.ship(0, 10), Due.FULL);
    }

    /** "SIZE (.. 10 at first), .. BEARS (.. 50 at first), WORN (.. 0 at first), .. ADRIFT (at first)." */
    private static void shipsAtFirst() {
        AnchorString x = Due.told("ship");
        x.ship(5, 33);
        for (int s = 0; s < 2; s++) {
            Due.due("KIND", x.of(s, 0), s == 0 ? 0 : 5);
            Due.due("SIZE", x.of(s, 1), s == 0 ? 10 : 33);
            Due.due("BEARS", x.of(s, 2), 50);
            Due.due("WORN", x.of(s, 3), 0);
            Due.due("ADRIFT", x.of(s, 4), -1);
        }
        // Where another ship was before the image came back.
        x.image();
        x.ship(3, 44);
        x.set(2, 2, 7);
        x.set(2, 3, 8);
        x.hang(2, 100);
        x.undo();
        x.ship(1, 1);
        Due.due("BEARS, there again", x.of(2, 2), 50);
        Due.due("WORN, there again", x.of(2, 3), 0);
        Due.due("ADRIFT, there again", x.of(2, 4), -1);
    }

    /** "a SIZE (1 to 99)" */
    private static void sizes() {
        AnchorString x = new AnchorString();
        Due.due("size 0", x.ship(0, 0), Due.BEYOND);
        Due.due("size 1", x.ship(0, 1), 0);
        Due.due("size 99", x.ship(0, 99), 1);
        Due.due("size 100", x.ship(0, 100), Due.BEYOND);
        Due.due("set to 99", x.set(0, 1, 99), 1);
        Due.due("set to 1", x.set(0, 1, 1), 99);
        Due.due("set to 0", x.set(0, 1, 0), Due.BEYOND);
        Due.due("set to 100", x.set(0, 1, 100), Due.BEYOND);
        Due.due("of(0, 1)", x.of(0, 1), 1);
    }

    /** "a CHAIN that BEARS so much (0 to 9999 ..)" */
    private static void chainsBear() {
        AnchorString x = Due.ships(1, 0, 10);
        Due.due("set to 0", x.set(0, 2, 0), 50);
        Due.due("set to 9999", x.set(0, 2, 9999), 0);
        Due.due("set to -1", x.set(0, 2, -1), Due.BEYOND);
        Due.due("set to 10000", x.set(0, 2, 10000), Due.BEYOND);
        Due.due("of(0, 2)", x.of(0, 2), 9999);
    }

    /** "WORN (0 to 99 ..)" */
    private static void worn() {
        AnchorString x = Due.ships(1, 0, 10);
        Due.due("set to 99", x.set(0, 3, 99), 0);
        Due.due("set to 0", x.set(0, 3, 0), 99);
        Due.due("set to -1", x.set(0, 3, -1), Due.BEYOND);
        Due.due("set to 100", x.set(0, 3, 100), Due.BEYOND);
        Due.due("of(0, 3)", x.of(0, 3), 0);
    }

    /** "a number: -1 ADRIFT, 0 to 11 a SHIP, 100 to 105 an ANCHOR." */
    private static void thingsToHangOn() {
        AnchorString x = Due.ships(12, 0, 10);
        int was = -1;
        for (int thing = -3; thing < 110; thing++) {
            boolean fine = thing == -1 || thing >= 0 && thing <= 11 && thing != 5 || thing >= 100 && thing <= 105;
            Due.due("hang(5, " + thing + ")", x.hang(5, thing), fine ? was : Due.BEYOND);
            was = fine ? thing : was;
        }
        Due.due("the last", x.of(5, 4), 105);
        x = Due.ships(3, 0, 10);
        Due.due("the last ship", x.hang(0, 2), -1);
        Due.due("no ship yet", x.hang(0, 3), Due.BEYOND);
    }

    /** "No SHIP HANGS on one that HANGS on it, by however many.": not one, and not two. */
    private static void noRing() {
        AnchorString x = Due.told("ship; ship on 0; ship on 1; ship");
        Due.due("itself", x.hang(0, 0), Due.BEYOND);
        Due.due("by one", x.hang(0, 1), Due.STATE);
        Due.due("by two", x.hang(0, 2), Due.STATE);
        Due.due("another's", x.hang(0, 3), -1);
        Due.due("by three", x.hang(3, 2), Due.STATE);
        Due.due("forward in the string", x.hang(2, 0), 1);
        Due.due("beside it then", x.hang(1, 2), 0);
        Due.due("round", x.hang(2, 1), Due.STATE);
    }

    private static void noRingOfTwelve() {
        AnchorString x = Due.ships(12, 0, 10);
        for (int s = 0; s < 11; s++) {
            x.hang(s, s + 1);
        }
        for (int s = 0; s < 11; s++) {
            Due.due("hang(11, " + s + ")", x.hang(11, s), Due.STATE);
        }
        Due.due("none of it", x.of(11, 4), -1);
        Due.due("by a text", Due.text(x, "hang 11 on 0"), -12);
        Due.due("the last leaves", x.hang(0, -1), 1);
        Due.due("and may be hung on", x.hang(11, 0), -1);
    }

    /** "PULL in a WIND w: ..": each KIND in each WIND, of odd sizes, least and most. */
    private static void pull() {
        pullRow(0, 1, "0 0 1 1 2 2 3 3 4 4 5 5 6");
        pullRow(0, 3, "0 1 3 4 6 7 9 10 12 13 15 16 18");
        pullRow(0, 99, "0 49 99 148 198 247 297 346 396 445 495 544 594");
        pullRow(1, 1, "0 0 1 1 3 3 4 4 6 6 7 7 9");
        pullRow(1, 3, "0 1 4 6 9 10 13 15 18 19 22 24 27");
        pullRow(1, 99, "0 73 148 222 297 370 445 519 594 667 742 816 891");
        pullRow(2, 1, "0 0 0 0 1 1 1 1 2 2 2 2 3");
        pullRow(2, 3, "0 0 1 2 3 3 4 5 6 6 7 8 9");
        pullRow(2, 99, "0 24 49 74 99 123 148 173 198 222 247 272 297");
        pullRow(3, 1, "5 5 6 6 7 7 8 8 9 9 10 10 11");
        pullRow(3, 3, "5 6 8 9 11 12 14 15 17 18 20 21 23");
        pullRow(3, 99, "5 54 104 153 203 252 302 351 401 450 500 549 599");
        pullRow(4, 1, "0 0 1 1 3 3 4 4 6 6 7 7 9");
        pullRow(4, 3, "0 1 4 6 9 10 13 15 18 19 22 24 27");
        pullRow(4, 99, "0 73 148 222 297 370 445 519 594 667 742 816 891");
        pullRow(5, 1, "0 0 0 0 1 1 1 1 2 2 2 2 3");
        pullRow(5, 3, "0 0 0 0 3 3 4 5 6 6 7 8 9");
        pullRow(5, 99, "0 0 0 0 99 123 148 173 198 222 247 272 297");
    }

    private static void pullRow(int kind, int size, String row) {
        AnchorString x = Due.ships(1, kind, size);
        String[] want = row.split(" ");
        for (int w = 0; w < 13; w++) {
            x.hour(w);
            Due.due("PULL of kind " + kind + " size " + size + " in " + w, x.of(0, 5), Integer.parseInt(want[w]));
        }
    }

    /** "SMUGGLER: as TOWED, but 0 in WINDS below 4.": also when asked ahead. */
    private static void smugglerBelowFour() {
        AnchorString x = Due.told("smuggler size 2 bears 1 at 0");
        Due.due("in 3", x.would(3), 0);
        Due.due("in 4", x.would(4), 1);
        Due.due("to 3", x.holds(), 3);
        Due.due("bears in 3", x.bears(0, 3), 0);
        Due.due("bears in 4", x.bears(0, 4), 4);
    }

    /** "BURNING: .. 10 for each SHIP that HANGS on it itself.": none, one, eleven, and not by two. */
    private static void burning() {
        AnchorString x = Due.ships(12, 0, 10);
        x.turn(0, 4);
        Due.due("none", x.of(0, 5), 0);
        x.hang(1, 0);
        Due.due("one", x.of(0, 5), 10);
        x.hang(2, 1);
        Due.due("one by two", x.of(0, 5), 10);
        for (int s = 2; s < 12; s++) {
            x.hang(s, 0);
        }
        Due.due("eleven", x.of(0, 5), 110);
        x.hang(0, 100);
        Due.due("not itself", x.of(0, 5), 110);
        for (int s = 1; s < 12; s++) {
            x.hang(s, 100);
        }
        Due.due("none again", x.of(0, 5), 0);
    }

    /** "STRAIN of a SHIP's CHAIN: .. (also if it is ADRIFT)." */
    private static void strainOfOneAdrift() {
        AnchorString x = Due.told("ship bears 0; ship on 0; ship on 1; ship on 0");
        x.hour(1);
        Due.due("alone", x.of(2, 6), 5);
        Due.due("its own and one", x.of(1, 6), 10);
        Due.due("adrift, by two", x.of(0, 6), 20);
        x.hang(1, -1);
        Due.due("adrift, less those that left", x.of(0, 6), 10);
        x = Due.ships(12, 1, 99);
        x.hour(12);
        for (int s = 1; s < 12; s++) {
            x.hang(s, s - 1);
        }
        Due.due("of twelve, above 9999", x.of(0, 6), 12 * 891);
    }

    /** "LOAD of an ANCHOR: STRAIN of all that HANG on it themselves.": of none, of one, of twelve. */
    private static void load() {
        AnchorString x = Due.ships(12, 1, 99);
        x.hour(12);
        Due.due("of none", x.anchorOf(3, 1), 0);
        x.hang(4, 103);
        Due.due("of one", x.anchorOf(3, 1), 891);
        x.hang(5, 4);
        Due.due("of one with another", x.anchorOf(3, 1), 2 * 891);
        for (int s = 0; s < 12; s++) {
            x.hang(s, 103);
        }
        Due.due("of twelve, above 9999", x.anchorOf(3, 1), 12 * 891);
        Due.due("of the next", x.anchorOf(2, 1) + x.anchorOf(4, 1), 0);
    }

    /** "BREAKS at: what the CHAIN BEARS less WORN (0 at least)": for all KINDS but SMUGGLER. */
    private static void breaksAt() {
        AnchorString x = Due.ships(1, 0, 10);
        for (int kind = 0; kind < 5; kind++) {
            x.turn(0, kind);
            x.set(0, 3, 99);
            int[][] rows = {{0, 0}, {98, 0}, {99, 0}, {100, 1}, {9999, 9900}};
            for (int[] row : rows) {
                x.set(0, 2, row[0]);
                Due.due("kind " + kind + " bears " + row[0] + " worn 99", x.of(0, 7), row[1]);
            }
            x.set(0, 3, 0);
            Due.due("kind " + kind + " bears 9999 worn 0", x.of(0, 7), 9999);
        }
    }

    /** "SMUGGLER: half of that.": half of what is left, and not less WORN behind that. */
    private static void breaksAtOfSmuggler() {
        AnchorString x = Due.ships(1, 5, 10);
        x.set(0, 3, 99);
        int[][] rows = {{0, 0}, {98, 0}, {99, 0}, {100, 0}, {101, 1}, {102, 1}, {103, 2}, {9999, 4950}};
        for (int[] row : rows) {
            x.set(0, 2, row[0]);
            Due.due("bears " + row[0] + " worn 99", x.of(0, 7), row[1]);
        }
        x.set(0, 3, 0);
        Due.due("bears 9999 worn 0", x.of(0, 7), 4999);
    }

    /** "the first SHIP that HANGS and whose STRAIN is above what it BREAKS at is ADRIFT" */
    private static void chainPartsAboveAlone() {
        AnchorString x = Due.told("ship bears 10 at 0; ship bears 9 at 1; ship bears 0 at 2; ship bears 0");
        Due.due("in 0, nothing above 0", x.would(0), 8);
        Due.due("in 1, 5 above 0", x.would(1), 8 + 4);
        Due.due("in 2, 10 above 9 and not above 10", x.would(2), 8 + 4 + 2);
        Due.due("in 3", x.would(3), 15);
        Due.due("hour(2)", x.hour(2), 2);
        Due.due("adrift()", x.adrift(), 8 + 4 + 2);
        x = Due.told("smuggler size 10 bears 20 at 0; smuggler size 10 bears 19 at 1; ship bears 20 worn 10 at 2; ship bears 20 worn 11 at 3");
        Due.due("in 4, smugglers, half", x.would(4) & 3, 2);
        Due.due("in 2, worn", x.would(2), 8);
    }

    /** "by and by, the first SHIP": the one ahead parts first, and takes its strain off. */
    private static void firstPartsFirst() {
        AnchorString x = Due.told("ship bears 9 at 0; ship bears 19 at 0; hang 0 on 1");
        Due.due("the last in the string is the first", x.would(2), 1);
        x = Due.told("ship bears 19 at 0; ship bears 9 on 0");
        Due.due("the last in the string is the last", x.would(2), 3);
        x = Due.told("ship bears 9; burning size 2 bears 9 at 0; hang 0 on 1");
        Due.due("the 10 of one that burns go with it", x.would(2), 1);
    }

    /** "(what HANGS on it stays so)" */
    private static void whatHangsOnItStays() {
        AnchorString x = Due.told("ship bears 29 at 0; ship bears 20 on 0; ship bears 10 on 1");
        Due.due("hour(2)", x.hour(2), 1);
        Due.due("of(0, 4)", x.of(0, 4), -1);
        Due.due("of(1, 4)", x.of(1, 4), 0);
        Due.due("of(2, 4)", x.of(2, 4), 1);
        x = Due.told("anchor 0 29; ship bears 30 at 0; ship bears 20 on 0; ship bears 10 on 1");
        Due.due("hour(2), the anchor drags", x.hour(2), 1);
        Due.due("of(1, 4), the anchor drags", x.of(1, 4), 0);
        Due.due("of(2, 4), the anchor drags", x.of(2, 4), 1);
    }

    /** "till there is none": twelve in one hour, forth and back. */
    private static void tillThereIsNone() {
        AnchorString x = Due.ships(12, 0, 10);
        for (int s = 0; s < 12; s++) {
            x.set(s, 2, 4);
            x.hang(s, s == 0 ? 100 : s - 1);
        }
        Due.due("twelve behind one another", x.hour(1), 12);
        for (int s = 0; s < 12; s++) {
            x.hang(s, s == 11 ? 100 : s + 1);
        }
        Due.due("and the other way", x.hour(1), 12);
        Due.due("adrift()", x.adrift(), 4095);
    }

    /** "then all that HANG on an ANCHOR (themselves) with a LOAD above what that HOLDS are ADRIFT" */
    private static void anchorDragsAboveAlone() {
        AnchorString x = Due.told("ship at 0; ship at 0; ship at 1; anchor 0 20; anchor 1 9; anchor 2 0");
        Due.due("in 0, nothing above 0", x.would(0), 0);
        Due.due("in 1, 10 of 20 and 5 of 9", x.would(1), 0);
        Due.due("in 2, 20 of 20 and 10 of 9", x.would(2), 4);
        Due.due("in 3, 30 of 20", x.would(3), 7);
        x.anchor(0, 29);
        Due.due("in 3, 30 of 29", x.would(3), 7);
        x.anchor(0, 30);
        Due.due("in 3, 30 of 30", x.would(3), 4);
        x.hang(0, 102);
        Due.due("in 1, 5 of 0", x.would(1), 1);
    }

    /** "then": anchors bear what is left behind all that parted. */
    private static void anchorsAfterChains() {
        AnchorString x = Due.told("ship at 0; ship bears 9 at 0; ship bears 9 on 0; anchor 0 10");
        Due.due("10 are left of 30", x.would(2), 2 + 4);
        x.anchor(0, 9);
        Due.due("10 are above 9", x.would(2), 7);
        x = Due.told("ship bears 9 at 0; ship at 0; anchor 0 0");
        x.hang(1, -1);
        Due.due("nobody is left", x.would(2), 3);
    }

    /** "for each ANCHOR once" */
    private static void eachAnchorOnce() {
        AnchorString x = Due.ships(12, 0, 10);
        for (int s = 0; s < 12; s++) {
            x.hang(s, 100 + s % 6);
        }
        for (int a = 0; a < 6; a++) {
            x.anchor(a, a % 2 == 0 ? 19 : 20);
        }
        Due.due("three drag", x.would(2), 1 + 4 + 16 + 64 + 256 + 1024);
        Due.due("hour(2)", x.hour(2), 6);
        Due.due("hour(3), the others too", x.hour(3), 6);
    }

    /** "An HOUR of WIND w: WIND is w; SETTLE; .. Then HOUR is one more." */
    private static void hourTakesItsOwnWind() {
        AnchorString x = Due.told("ship bears 5 at 0");
        Due.due("hour(1)", x.hour(1), 0);
        Due.due("WIND", x.now(1), 1);
        Due.due("HOUR", x.now(0), 1);
        x.set(0, 3, 0);
        Due.due("hour(2), by 2 and not by 1", x.hour(2), 1);
        x = Due.told("ship bears 9 at 0");
        x.hang(0, -1);
        x.hour(12);
        x.hang(0, 100);
        Due.due("hour(1), by 1 and not by 12", x.hour(1), 0);
        Due.due("HOUR", x.now(0), 2);
    }

    /** "WORN of each SHIP that HANGS and whose STRAIN is above half of what it BREAKS at is 1 more" */
    private static void wornAboveHalfAlone() {
        AnchorString x = Due.told("ship bears 21 at 0; ship bears 20 at 0; ship bears 19 at 1; ship bears 18; ship bears 18 on 3",
                "smuggler bears 40 at 2; smuggler bears 39 at 2; smuggler bears 38 at 2; smuggler bears 37 at 3");
        x.hour(2);
        int[] in2 = {0, 0, 1, 0, 1, 0, 0, 0, 0};
        for (int s = 0; s < 9; s++) {
            Due.due("10 of ship " + s, x.of(s, 3), in2[s]);
        }
        for (int s = 0; s < 5; s++) {
            x.hang(s, -1);
        }
        x.hour(4);
        int[] in4 = {0, 0, 1, 0, 1, 0, 1, 1, 1};
        for (int s = 0; s < 9; s++) {
            Due.due("10 of smuggler " + s, x.of(s, 3), in4[s]);
        }
        x = Due.told("ship bears 0 at 0; ship size 2 bears 1 at 1");
        x.hour(0);
        Due.due("0 is not above 0", x.of(0, 3), 0);
        x.hang(0, -1);
        x.hour(1);
        Due.due("1 is above half of 1", x.of(1, 3), 1);
    }

    /** Wear comes behind SETTLE: by what hangs then, and on whom hangs then. */
    private static void wornByStrainBehindSettle() {
        AnchorString x = Due.told("ship bears 9; ship bears 20 at 0; hang 0 on 1");
        x.hour(2);
        Due.due("one parted", x.adrift(), 1);
        Due.due("and is not worn", x.of(0, 3), 0);
        Due.due("nor that which it left", x.of(1, 3), 0);
        x = Due.told("ship bears 18 at 0; ship bears 9 on 0; anchor 0 19");
        x.set(0, 2, 20);
        x.set(1, 2, 19);
        x.hour(2);
        Due.due("one dragged", x.adrift(), 1);
        Due.due("and is not worn, dragged", x.of(0, 3), 0);
        Due.due("one on it is", x.of(1, 3), 1);
    }

    /** "(99 at most)" */
    private static void wornIs99AtMost() {
        AnchorString x = Due.told("ship bears 130 worn 97 at 0");
        x.hour(4);
        Due.due("98", x.of(0, 3), 98);
        x.hour(4);
        Due.due("99", x.of(0, 3), 99);
        x.hour(4);
        Due.due("still 99", x.of(0, 3), 99);
        Due.due("hours(100, 4)", x.hours(100, 4), 0);
        Due.due("and still", x.of(0, 3), 99);
    }

    /** "A STRING: a SHIP and all that HANG on it, by however many.": alone, and twelve. */
    private static void string() {
        AnchorString x = Due.ships(12, 0, 10);
        Due.due("alone, first", x.of(0, 9), 1);
        Due.due("alone, last", x.of(11, 9), 2048);
        for (int s = 0; s < 11; s++) {
            x.hang(s, s + 1);
        }
        Due.due("of twelve", x.of(11, 9), 4095);
        Due.due("its last", x.of(0, 9), 1);
        Due.due("of eleven", x.of(10, 9), 2047);
    }

    /** "DEPTH: 1 on an ANCHOR, else one more ..; 0, if that (by however many) or itself is ADRIFT." */
    private static void depth() {
        AnchorString x = Due.ships(12, 0, 10);
        Due.due("adrift", x.of(0, 8), 0);
        for (int s = 1; s < 12; s++) {
            x.hang(s, s - 1);
            Due.due("on one adrift, by " + s, x.of(s, 8), 0);
        }
        x.hang(0, 105);
        for (int s = 0; s < 12; s++) {
            Due.due("depth of " + s, x.of(s, 8), s + 1);
        }
        x.hang(6, -1);
        Due.due("ahead of it", x.of(5, 8), 6);
        Due.due("itself", x.of(6, 8), 0);
        Due.due("behind it", x.of(11, 8), 0);
        x.hang(6, 100);
        Due.due("from there", x.of(11, 8), 6);
    }

    /** "HOLD in a WIND: none would be ADRIFT by SETTLE in it that isn't now." */
    private static void hold() {
        AnchorString x = Due.told("dragging bears 0; dragging bears 0");
        Due.due("all adrift now", x.holds(), 12);
        Due.due("all adrift now, sure", x.sure(), 13);
        x.hang(1, 0);
        Due.due("one that hangs on one adrift counts", x.holds(), Due.NONE);
        Due.due("and is not sure", x.sure(), 0);
        x.set(1, 2, 5);
        Due.due("5 of 5", x.holds(), 0);
        x.set(1, 2, 65);
        Due.due("65 of 65", x.holds(), 12);
        x.set(1, 2, 64);
        Due.due("65 of 64", x.holds(), 11);
    }

    /** "SHEETS 0 to 3 are rows of at most 40 numbers of 8, 16 or 64 bits, or MISSING (at first)." */
    private static void sheets() {
        AnchorString x = new AnchorString();
        for (int s = 0; s < 4; s++) {
            Due.due("sheet " + s + " at first", x.write(s, 0, 0), Due.MISSING);
        }
        for (int bits : new int[] {8, 16, 64}) {
            for (int s = 0; s < 4; s++) {
                Due.due("sheet " + s + " of 40", x.sheet(s, bits, 40), 40);
                Due.due("the last number", x.write(s, 39, bits), 0);
                Due.due("none behind it", x.write(s, 40, 5), Due.BEYOND);
                Due.due("sheet of 41", x.sheet(s, bits, 41), Due.BEYOND);
                Due.due("it stays", x.write(s, 39, 0), bits);
            }
        }
        Due.due("sheet -1", x.sheet(-1, 8, 1), Due.BEYOND);
        Due.due("sheet 4", x.sheet(4, 8, 1), Due.BEYOND);
    }
}
