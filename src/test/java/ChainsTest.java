/** Promises 27 to 31. */
public final class ChainsTest {
    public static void main(String[] args) {
        matters();
        bears();
        bearsAmongOthers();
        weakest();
        kind();
        stronger();
        twelve();
        Due.end();
    }

    private static void matters() {
        AnchorString x = new AnchorString();
        Due.due("27 matters(), no ships", x.matters(), Due.NONE);
        x = Due.told("ship; ship on 0; ship on 1; ship on 2");
        Due.due("27 matters(), all lost", x.matters(), Due.NONE);
        x = Due.told("ship; ship on 0; ship on 1; ship on 2; ship at 0; ship at 1; ship on 5");
        Due.due("27 matters(), lost ones don't count", x.matters(), 5);
        x.hang(4, 6);
        Due.due("27 matters()", x.matters(), 5);
        x.hang(5, -1);
        x.hang(4, 103);
        x.hang(3, 104);
        Due.due("27 matters(), of several the least", x.matters(), 3);
        x.hang(0, 100);
        Due.due("27 matters()", x.matters(), 0);
        Due.due("27 nothing changed", x.of(0, 4), 100);
    }

    private static void bears() {
        AnchorString x = Due.told("ship at 0; ship on 0; smuggler size 10 worn 3 on 1; ship; anchor 0 9999");
        Due.due("28 bears(0, 0)", x.bears(0, 0), 0);
        Due.due("28 bears(2, 3), nothing to bear, though worn", x.bears(2, 3), 0);
        Due.due("28 bears(0, 3)", x.bears(0, 3), 30);
        Due.due("28 bears(2, 4), half and worn", x.bears(2, 4), 23);
        Due.due("28 bears(0, 4)", x.bears(0, 4), 50);
        x.set(0, 3, 99);
        Due.due("28 bears(0, 4), worn", x.bears(0, 4), 149);
        Due.due("28 bears(3, 4)", x.bears(3, 4), Due.STATE);
        Due.due("28 bears(3, 13)", x.bears(3, 13), Due.BEYOND);
        Due.due("28 bears(0, -1)", x.bears(0, -1), Due.BEYOND);
        Due.due("28 bears(4, 0)", x.bears(4, 0), Due.BEYOND);
        Due.due("28 bears(-1, 0)", x.bears(-1, 0), Due.BEYOND);
        Due.due("28 nothing changed", x.of(0, 2), 50);
        x.anchor(0, 49);
        Due.due("28 bears(0, 4), the anchor drags", x.bears(0, 4), Due.NONE);
        Due.due("28 bears(1, 4), one on it is not adrift itself", x.bears(1, 4), 30);
    }

    private static void bearsAmongOthers() {
        // Ship 0 parts ahead of ship 1, on which it hangs; ship 2 behind it.
        AnchorString x = Due.told("ship bears 5; ship bears 0 at 0; ship bears 5 on 1; hang 0 on 1; anchor 0 9999");
        Due.due("28 bears(1, 2), once 0 is gone and 2 not yet", x.bears(1, 2), 20);
        Due.due("28 bears(0, 2)", x.bears(0, 2), 10);
        Due.due("28 bears(2, 2)", x.bears(2, 2), 10);
        x = Due.told("smuggler size 99 at 0;tall size 99 bears 9999 on 0;tall size 99 bears 9999 on 1;tall size 99 bears 9999 on 2");
        Due.text(x, "tall size 99 bears 9999 on 3;tall size 99 bears 9999 on 4;tall size 99 bears 9999 on 0");
        x.anchor(0, 9999);
        Due.due("28 bears(0, 12), no chain of a smuggler's bears so much", x.bears(0, 12), Due.NONE);
        Due.due("28 bears(0, 10)", x.bears(0, 10), 2 * (6 * 742 + 247));
        x.turn(0, 0);
        Due.due("28 bears(0, 12), a ship's does", x.bears(0, 12), 6 * 891 + 594);
    }

    private static void weakest() {
        AnchorString x = new AnchorString();
        Due.due("29 weakest(5), no ships", x.weakest(5), Due.NONE);
        x = Due.told("ship bears 0; ship at 0; ship bears 49 on 0; ship at 1");
        Due.due("29 weakest(0), it hangs on one adrift", x.weakest(0), 2);
        x.set(2, 2, 50);
        Due.due("29 weakest(0), of several the least", x.weakest(0), 1);
        x.hang(2, 3);
        Due.due("29 weakest(1)", x.weakest(1), 3);
        x.set(3, 2, 55);
        Due.due("29 weakest(1)", x.weakest(1), 1);
        Due.due("29 weakest(12), below 0", x.weakest(12), 3);
        Due.due("29 weakest(13)", x.weakest(13), Due.BEYOND);
        Due.due("29 weakest(-1)", x.weakest(-1), Due.BEYOND);
        x.turn(1, 5);
        Due.due("29 weakest(0), a smuggler's is half", x.weakest(0), 1);
        x = Due.told("ship at 0; ship at 1");
        Due.due("29 weakest(3), ship 0", x.weakest(3), 0);
        x = Due.told("ship; ship");
        Due.due("29 weakest(0), all adrift", x.weakest(0), Due.NONE);
        Due.due("29 weakest(13), all adrift", x.weakest(13), Due.BEYOND);
    }

    private static void kind() {
        AnchorString x = Due.told("ship at 0; ship size 30 at 1");
        // Ship 1: as SHIP to 3, as TALL to 2, as TOWED to 6 (50 of pull in 7), as DRAGGING to 3, as SMUGGLER to 3.
        Due.due("30 kind(1)", x.kind(1), 2);
        x.hang(1, -1);
        Due.due("30 kind(1), adrift: all alike", x.kind(1), 0);
        x.hang(1, 101);
        x.set(1, 1, 1);
        Due.due("30 kind(1), another parts first", x.kind(1), 0);
        x.set(0, 2, 9999);
        Due.due("30 kind(0), as all hold", x.kind(0), 0);
        x.anchor(0, 59);
        Due.due("30 kind(0)", x.kind(0), 2);
        x.set(0, 2, 20);
        x.set(1, 1, 30);
        x.set(1, 2, 0);
        Due.due("30 kind(1), pulls nothing in 3", x.kind(1), 5);
        x.hang(0, 103);
        x.anchor(3, 0);
        x.turn(0, 3);
        Due.due("30 kind(1), in none", x.kind(1), 0);
        Due.due("30 kind(2)", x.kind(2), Due.BEYOND);
        Due.due("30 kind(-1)", x.kind(-1), Due.BEYOND);
        Due.due("30 nothing changed", x.of(0, 0), 3);
        Due.due("30 nothing changed", x.of(1, 0), 0);
    }

    /** As many ships as can be, behind one another, for all that asks about ships. */
    private static void twelve() {
        AnchorString x = new AnchorString();
        for (int s = 0; s < 12; s++) {
            x.ship(0, 1);
            x.hang(s, s == 0 ? 105 : s - 1);
        }
        x.sheet(0, 16, 40);
        Due.due("39 dawn(0)", x.dawn(0), 12);
        Due.due("40 read(0)", x.read(0), 0);
        Due.due("27 matters()", x.matters(), 0);
        Due.due("15 now(3)", x.now(3), 12);
        Due.due("3 anchorOf(5, 3)", x.anchorOf(5, 3), 4095);
        Due.due("14 lost()", x.lost(), 0);
        Due.due("21 free()", x.free(), 2048);
        Due.due("22 ahead(0)", x.ahead(0), 11);
        Due.due("17 holds(), 12 times 4 of 50", x.holds(), 9);
        Due.due("16 would(12), strain falls by 6", x.would(12), 1 + 2 + 4 + 8);
        Due.due("29 weakest(2)", x.weakest(2), 0);
        Due.due("28 bears(0, 12)", x.bears(0, 12), 72);
        Due.due("30 kind(0)", x.kind(0), 0);
        Due.due("23 place(11, 9)", x.place(11, 9), 100);
        Due.due("24 best(11), to wind 9 everywhere", x.best(11), 0);
        Due.due("26 canCut(5, 9)", x.canCut(5, 9), 1);
        Due.due("25 cut(5)", x.cut(5), 1);
        Due.due("25 of(6, 4)", x.of(6, 4), 4);
        for (int s = 0; s < 12; s++) {
            x.hang(s, -1);
        }
        for (int s = 0; s < 12; s++) {
            x.set(s, 2, 0);
            x.hang(s, 100);
        }
        Due.due("11 hour(2), all part", x.hour(2), 12);
        Due.due("13 adrift()", x.adrift(), 4095);
    }

    private static void stronger() {
        AnchorString x = new AnchorString();
        Due.due("31 stronger(), no ships", x.stronger(), 0);
        x = Due.told("ship size 20 bears 9999 at 2; ship size 20 bears 9999 at 5; anchor 5 99");
        Due.due("31 stronger()", x.stronger(), 5);
        x.anchor(2, 88);
        Due.due("31 stronger()", x.stronger(), 2);
        x.anchor(5, 88);
        Due.due("31 stronger(), one isn't enough", x.stronger(), 0);
        x = Due.told("dragging bears 9999 at 1; dragging bears 9999 at 3; anchor 1 0; anchor 3 0");
        Due.due("31 stronger(), in none", x.stronger(), 0);
        x.anchor(1, 5);
        Due.due("31 stronger(), from none", x.stronger(), 3);
        Due.due("31 nothing changed", x.anchorOf(3, 0), 0);
        x = new AnchorString();
        for (int s = 0; s < 12; s++) {
            x.ship(1, 99);
            x.set(s, 2, 9999);
            x.hang(s, 103);
        }
        x.anchor(3, 9999);
        Due.due("17 holds(), 12 times 816", x.holds(), 11);
        Due.due("31 stronger(), above 9999", x.stronger(), 3);
        // Twelve smugglers of 99 pull nothing in wind 3, and 1188 in wind 4.
        for (int s = 0; s < 12; s++) {
            x.turn(s, 5);
        }
        x.anchor(3, 187);
        Due.due("31 stronger(), 1000 are not enough", x.stronger(), 0);
        x.anchor(3, 188);
        Due.due("31 stronger(), just enough", x.stronger(), 3);
    }
}
