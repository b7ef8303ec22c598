/** Boundary cases of promises 21 to 26; those of refused calls stand in RefusalsTest. */
public final class LeavingEdgesTest {
    private static final String NO_ANCHORS = "anchor 0 0;anchor 1 0;anchor 2 0;anchor 3 0;anchor 4 0;anchor 5 0";

    public static void main(String[] args) {
        freeNoneAndAll();
        freeTheyHang();
        ahead();
        placeLastThatHolds();
        placeLeastNumber();
        placeNotAdrift();
        placeNotOnItsString();
        placeOthersMustHold();
        placeFullRoadstead();
        bestLeastNumber();
        bestGreatestWind();
        bestInNone();
        bestNotOnItsString();
        bestDepthOneOrMore();
        cutNoneAndAll();
        cutOntoWhatItHangsOn();
        canCut();
        canCutCountsAsCut();
        Due.end();
    }

    /** "SHIPS that may leave (they HANG, and nobody HANGS on them), as a set." */
    private static void freeNoneAndAll() {
        Due.due("21 no ships", new AnchorString().free(), 0);
        AnchorString x = Due.ships(12, 0, 10);
        Due.due("21 all adrift", x.free(), 0);
        for (int s = 0; s < 12; s++) {
            x.hang(s, 100 + s % 6);
        }
        Due.due("21 all", x.free(), 4095);
        for (int s = 0; s < 11; s++) {
            x.hang(s, s + 1);
        }
        Due.due("21 the last of a string", x.free(), 1);
    }

    private static void freeTheyHang() {
        AnchorString x = Due.told("ship; ship on 0; ship; ship at 0");
        Due.due("21 on one adrift it hangs", x.free(), 2 + 8);
        x.hang(2, 3);
        Due.due("21 somebody hangs on it", x.free(), 2 + 4);
    }

    /** "How many must leave ahead of a SHIP (its STRING less itself)." */
    private static void ahead() {
        AnchorString x = Due.ships(12, 0, 10);
        Due.due("22 alone", x.ahead(11), 0);
        for (int s = 0; s < 11; s++) {
            x.hang(s, s + 1);
        }
        Due.due("22 eleven", x.ahead(11), 11);
        Due.due("22 ten", x.ahead(10), 10);
        Due.due("22 the last", x.ahead(0), 0);
        for (int s = 0; s < 11; s++) {
            x.hang(s, 11);
        }
        Due.due("22 eleven on it itself", x.ahead(11), 11);
    }

    /** "on which a SHIP may HANG so that all HOLD in a WIND": the last wind that is fine, and the first that isn't. */
    private static void placeLastThatHolds() {
        AnchorString x = Due.told("ship");
        Due.due("23 50 of its chain's 50", x.place(0, 10), 100);
        Due.due("23 55 of its chain's 50", x.place(0, 11), Due.NONE);
        x = Due.told(NO_ANCHORS, "ship; anchor 4 50");
        Due.due("23 50 of anchor 4's 50", x.place(0, 10), 104);
        x.set(0, 2, 55);
        Due.due("23 55 of anchor 4's 50", x.place(0, 11), Due.NONE);
        x.anchor(4, 54);
        Due.due("23 55 of anchor 4's 54", x.place(0, 11), Due.NONE);
        x.anchor(4, 55);
        Due.due("23 55 of anchor 4's 55", x.place(0, 11), 104);
        Due.due("23 in 12", x.place(0, 12), Due.NONE);
        Due.due("23 in 0", x.place(0, 0), 100);
    }

    /** "with least DEPTH of it (1 or more); of several the least number." */
    private static void placeLeastNumber() {
        AnchorString x = Due.told("ship; ship at 5; ship on 1");
        Due.due("23 anchors ahead of ships", x.place(0, 0), 100);
        for (int a = 0; a < 5; a++) {
            x.anchor(a, 4);
            Due.due("23 the least that holds", x.place(0, 1), a < 4 ? 101 + a : 105);
        }
        x.anchor(5, 14);
        Due.due("23 the last doesn't either", x.place(0, 1), Due.NONE);
        x.anchor(2, 5);
        x.anchor(3, 5);
        x.anchor(5, 10);
        Due.due("23 of two the least", x.place(0, 1), 102);
    }

    /** "(a number as in hang(), -1 not)": adrift it would not strain anything. */
    private static void placeNotAdrift() {
        AnchorString x = Due.told("ship bears 0");
        Due.due("23 not -1", x.place(0, 1), Due.NONE);
        x = Due.told("ship bears 0; ship; ship on 1");
        Due.due("23 nor on one that is lost", x.place(0, 1), Due.NONE);
        x.set(0, 2, 5);
        x.set(0, 1, 1);
        Due.due("23 and not there ahead of an anchor", x.place(0, 0), 100);
    }

    private static void placeNotOnItsString() {
        AnchorString x = Due.told(NO_ANCHORS, "ship size 1 at 2; ship size 1 on 0; ship size 1 on 1");
        x.anchor(2, 2);
        Due.due("23 it, with its string", x.place(0, 2), Due.NONE);
        x.anchor(2, 3);
        Due.due("23 it, where it hangs", x.place(0, 2), 102);
        Due.due("23 another of its string", x.place(2, 2), 102);
    }

    /** "so that all HOLD": another one that parts wherever this hangs. */
    private static void placeOthersMustHold() {
        AnchorString x = Due.told("ship bears 4 at 5; ship");
        Due.due("23 another parts", x.place(1, 1), Due.NONE);
        Due.due("23 another doesn't", x.place(1, 0), 100);
        Due.due("23 that one itself", x.place(0, 1), Due.NONE);
        x.set(0, 2, 5);
        Due.due("23 5 of 5", x.place(1, 1), 100);
        x.hang(0, -1);
        x.set(0, 2, 0);
        Due.due("23 one adrift now doesn't count", x.place(1, 1), 100);
        x = Due.told("ship bears 5; ship bears 9 at 5; hang 0 on 1");
        Due.due("23 holds() as it is", x.holds(), 0);
        Due.due("23 moved away it takes the strain along", x.place(0, 1), 100);
    }

    private static void placeFullRoadstead() {
        AnchorString x = Due.ships(12, 0, 1);
        for (int s = 0; s < 11; s++) {
            x.hang(s, s == 0 ? 100 : s - 1);
        }
        Due.due("23 the twelfth", x.place(11, 2), 100);
        for (int a = 0; a < 6; a++) {
            x.anchor(a, a == 0 ? 11 : 0);
        }
        Due.due("23 the twelfth, nowhere", x.place(11, 2), Due.NONE);
        x.anchor(0, 12);
        Due.due("23 the twelfth, just so", x.place(11, 2), 100);
    }

    /** "so that the greatest WIND .. is greatest; of several the least number": ships ahead of anchors. */
    private static void bestLeastNumber() {
        AnchorString x = Due.told("ship size 1 bears 999 at 0; ship size 1 bears 999 on 0; ship size 1");
        Due.due("24 all hold in 12 everywhere", x.best(2), 0);
        Due.due("24 the first itself, not on one adrift", x.best(0), 100);
        x.set(0, 2, 17);
        Due.due("24 the first ship would not bear it in 12", x.best(2), 100);
        x.anchor(0, 17);
        Due.due("24 nor anchor 0", x.best(2), 101);
        x.hang(2, 105);
        Due.due("24 wherever it hangs now", x.best(2), 101);
    }

    private static void bestGreatestWind() {
        AnchorString x = Due.told(NO_ANCHORS, "ship bears 999; anchor 1 54; anchor 3 55; anchor 4 59; anchor 5 60");
        Due.due("24 to 12", x.best(0), 105);
        x.anchor(5, 59);
        Due.due("24 to 11, of three the least", x.best(0), 103);
        x.anchor(3, 0);
        x.anchor(4, 0);
        x.anchor(5, 0);
        Due.due("24 to 10", x.best(0), 101);
        x.anchor(1, 4);
        Due.due("24 to 0 everywhere", x.best(0), 100);
    }

    /** "NONE: nowhere, or in none." */
    private static void bestInNone() {
        AnchorString x = Due.told(NO_ANCHORS, "dragging");
        Due.due("24 5 above 0", x.best(0), Due.NONE);
        x.anchor(5, 4);
        Due.due("24 5 above 4", x.best(0), Due.NONE);
        x.anchor(5, 5);
        Due.due("24 5 of 5, in 0 alone", x.best(0), 105);
        x.set(0, 2, 4);
        Due.due("24 5 above 4 of its chain", x.best(0), Due.NONE);
        x = Due.told("dragging bears 4 at 0; ship; burning");
        Due.due("24 another doesn't hold in 0", x.best(1), Due.NONE);
        x.set(0, 2, 5);
        Due.due("24 another holds in 0 alone, also with this on it", x.best(1), 0);
    }

    private static void bestNotOnItsString() {
        AnchorString x = Due.told("ship size 1 bears 999 at 0; ship size 1 on 0; ship size 1 on 1");
        Due.due("24 not on those behind it", x.best(0), 100);
        Due.due("24 the middle on the first", x.best(1), 0);
        Due.due("24 the last on the first", x.best(2), 0);
    }

    /** "(things as in place(), DEPTH 1 or more)": on one adrift nothing would part. */
    private static void bestDepthOneOrMore() {
        AnchorString x = Due.told("ship bears 0; ship size 1 bears 999; ship size 1 on 0");
        Due.due("24 not on lost ones", x.best(1), 100);
        x.set(2, 2, 999);
        Due.due("24 not on ship 0, adrift", x.best(1), 100);
        x.hang(0, 105);
        Due.due("24 on ship 0, which holds in 0 alone anyhow", x.best(1), 0);
        x.set(0, 2, 999);
        Due.due("24 on ship 0, at an anchor", x.best(1), 0);
    }

    /** "all that HANG on it HANG on what it HANGS on, and it is ADRIFT: how many these were." */
    private static void cutNoneAndAll() {
        AnchorString x = Due.ships(12, 0, 10);
        x.hang(5, 103);
        Due.due("25 none", x.cut(5), 0);
        Due.due("25 adrift", x.of(5, 4), -1);
        x.hang(5, 103);
        for (int s = 0; s < 12; s++) {
            if (s != 5) {
                x.hang(s, 5);
            }
        }
        Due.due("25 eleven", x.cut(5), 11);
        Due.due("25 they hang on anchor 3", x.anchorOf(3, 2), 4095 - 32);
        Due.due("25 it is adrift", x.adrift(), 32);
        Due.due("25 and can't be cut again", x.cut(5), Due.STATE);
    }

    private static void cutOntoWhatItHangsOn() {
        AnchorString x = Due.told("ship; ship on 0; ship on 1; ship on 2; ship at 5");
        Due.due("25 on one that is on one adrift", x.cut(2), 1);
        Due.due("25 of(3, 4)", x.of(3, 4), 1);
        Due.due("25 on one adrift", x.cut(1), 1);
        Due.due("25 of(3, 4)", x.of(3, 4), 0);
        Due.due("25 they are not adrift themselves", x.adrift(), 1 + 2 + 4);
        Due.due("25 one adrift with one on it", x.cut(0), Due.STATE);
        Due.due("25 of(3, 4) stays", x.of(3, 4), 0);
        Due.due("25 another stays", x.of(4, 4), 105);
    }

    /** "Whether all would HOLD in a WIND, once it were cut out: 1, 0." */
    private static void canCut() {
        AnchorString x = Due.told("ship bears 20 at 0; ship bears 99 on 0; ship on 1; ship on 1");
        Due.due("26 in 1, 15 of 20", x.canCut(1, 1), 1);
        Due.due("26 in 2, 30 of 20", x.canCut(1, 2), 0);
        x.set(0, 2, 30);
        Due.due("26 in 2, 30 of 30", x.canCut(1, 2), 1);
        x.set(0, 2, 29);
        Due.due("26 in 2, 30 of 29", x.canCut(1, 2), 0);
        x.set(0, 2, 99);
        x.anchor(0, 30);
        Due.due("26 in 2, 30 of the anchor's 30", x.canCut(1, 2), 1);
        x.anchor(0, 29);
        Due.due("26 in 2, 30 of the anchor's 29", x.canCut(1, 2), 0);
        x.anchor(0, 0);
        Due.due("26 in 0", x.canCut(1, 0), 1);
        Due.due("26 in 12", x.canCut(1, 12), 0);
    }

    /** It itself is adrift by then and counts for nothing; one whose chain is relieved holds. */
    private static void canCutCountsAsCut() {
        AnchorString x = Due.told("ship bears 0 at 0; ship at 1");
        Due.due("26 its own chain doesn't matter", x.canCut(0, 10), 1);
        Due.due("26 another's does", x.canCut(1, 1), 0);
        x = Due.told("burning size 1 bears 99 at 0; ship size 1 on 0; ship size 1 on 0; anchor 0 2");
        Due.due("17 the fire's 20 are above 2", x.holds(), Due.NONE);
        Due.due("26 the fire cut out", x.canCut(0, 2), 1);
        Due.due("26 the fire cut out, 2 of 2 in 3", x.canCut(0, 3), 1);
        Due.due("26 the fire cut out, 4 of 2 in 4", x.canCut(0, 4), 0);
        x = Due.told("burning size 1 bears 20 at 0; burning size 1 on 0; ship size 1 on 1; ship size 1 on 1");
        Due.due("26 those behind come to burn it more", x.canCut(1, 0), 1);
        x.set(0, 2, 19);
        Due.due("26 20 of 19", x.canCut(1, 0), 0);
    }
}
