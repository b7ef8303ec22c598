/** Boundary cases of promises 1 to 10; those of refused calls stand in RefusalsTest. */
public final class ShipsEdgesTest {
    public static void main(String[] args) {
        newObject();
        objectsShareNothing();
        anchorWhatItWas();
        anchorOfNoneAndOfAll();
        shipNumbers();
        shipFullAndNotAgain();
        ofEachWhat();
        setWhatItWas();
        setLeavesTheOthers();
        hangOnWhatItDid();
        hangOnTheSame();
        hangTakesTheStringAlong();
        turnToEachKind();
        asEachKind();
        asTellsSize();
        oddsWhatTheyWere();
        Due.end();
    }

    /** "All as at first, no SHIPS; THE TAPE is empty, no image is kept." */
    private static void newObject() {
        AnchorString x = new AnchorString();
        Due.same("1 a new object", Due.look(x), "ships 0 hour 0 wind 0 tape 0 | anchors 100 100 100 100 100 100 | odds"
                + " 1 1 1 1 1 1 1 1 1 1 1 1 1\n  sheet -1000000006\n  sheet -1000000006\n  sheet -1000000006\n  sheet -1000000006"
                + "\n  text -1 ships 0 hour 0 wind 0 tape 0 | anchors 100 100 100 100 100 100 | odds 1 1 1 1 1 1 1 1 1 1 1 1 1"
                + "\n  undo -1000000004 ships 0 hour 0 wind 0 tape 0 | anchors 100 100 100 100 100 100 | odds 1 1 1 1 1 1 1 1 1 1 1 1 1"
                + "\n  kept 0");
        x = new AnchorString();
        for (int which = -1; which < 7; which++) {
            Due.due("1 status(" + which + ")", x.status(which), 0);
        }
    }

    private static void objectsShareNothing() {
        String before = Due.look(new AnchorString());
        AnchorString x = new AnchorString();
        AnchorString y = Due.told("tall at 0; anchor 0 5; odds 3 3");
        y.image();
        y.sheet(0, 8, 3);
        y.hour(5);
        y.hour(13);
        Due.feed(y, "ship");
        Due.due("1 status(-1) of another", x.status(-1), 0);
        Due.same("1 another object", Due.look(x), before);
    }

    /** "What an ANCHOR HOLDS becomes v: what it was." */
    private static void anchorWhatItWas() {
        AnchorString x = new AnchorString();
        Due.due("2 anchor(5, 100), the same", x.anchor(5, 100), 100);
        Due.due("2 anchor(5, 9998)", x.anchor(5, 9998), 100);
        Due.due("2 anchor(5, 9999)", x.anchor(5, 9999), 9998);
        Due.due("2 anchor(5, 1)", x.anchor(5, 1), 9999);
        Due.due("2 anchor(5, 0)", x.anchor(5, 0), 1);
        Due.due("2 anchor(5, 0), the same", x.anchor(5, 0), 0);
        x = Due.told("ship at 0");
        x.hour(2);
        Due.due("2 anchor(0, 0), below the load", x.anchor(0, 0), 100);
        Due.due("2 nothing drags ahead of an hour", x.of(0, 4), 100);
    }

    /** "what 0 what it HOLDS, 1 LOAD in this WIND, 2 SHIPS that HANG on it (themselves), 3 all on it, by however many" */
    private static void anchorOfNoneAndOfAll() {
        AnchorString x = Due.ships(12, 0, 10);
        for (int a = 0; a < 6; a++) {
            Due.due("3 load of none", x.anchorOf(a, 1), 0);
            Due.due("3 set of none", x.anchorOf(a, 2), 0);
            Due.due("3 all of none", x.anchorOf(a, 3), 0);
        }
        x.hour(1);
        for (int s = 1; s < 12; s++) {
            x.hang(s, s - 1);
        }
        Due.due("3 on one adrift", x.anchorOf(5, 3), 0);
        x.hang(0, 105);
        Due.due("3 load of a string of twelve", x.anchorOf(5, 1), 60);
        Due.due("3 themselves, one", x.anchorOf(5, 2), 1);
        Due.due("3 by however many, twelve", x.anchorOf(5, 3), 4095);
        for (int s = 0; s < 12; s++) {
            x.hang(s, 100);
        }
        Due.due("3 load of twelve", x.anchorOf(0, 1), 60);
        Due.due("3 themselves, twelve", x.anchorOf(0, 2), 4095);
        Due.due("3 all, twelve", x.anchorOf(0, 3), 4095);
        Due.due("3 the last has none", x.anchorOf(5, 1) + x.anchorOf(5, 2) + x.anchorOf(5, 3), 0);
    }

    /** "A new SHIP, ADRIFT: its number.": each kind, least size and most. */
    private static void shipNumbers() {
        AnchorString x = new AnchorString();
        for (int s = 0; s < 12; s++) {
            Due.due("4 ship", x.ship(s % 6, s < 6 ? 1 : 99), s);
            Due.due("4 kind of " + s, x.of(s, 0), s % 6);
            Due.due("4 size of " + s, x.of(s, 1), s < 6 ? 1 : 99);
            Due.due("4 adrift, " + s, x.of(s, 4), -1);
            Due.due("4 count(0)", x.count(0), s + 1);
        }
    }

    /** "FULL.", and no more so once there are fewer again. */
    private static void shipFullAndNotAgain() {
        AnchorString x = Due.ships(11, 0, 10);
        x.image();
        Due.due("4 the 12th", x.ship(3, 7), 11);
        Due.due("4 a 13th", x.ship(3, 7), Due.FULL);
        Due.due("4 undo()", x.undo(), 11);
        Due.due("4 the 12th again", x.ship(2, 8), 11);
        Due.due("4 its kind", x.of(11, 0), 2);
        Due.due("4 a 13th again", x.ship(3, 7), Due.FULL);
    }

    /** "what 0 KIND, .. 9 its STRING": the first ship and the last, each what. */
    private static void ofEachWhat() {
        AnchorString x = Due.ships(12, 0, 10);
        x.turn(11, 1);
        x.set(11, 1, 7);
        x.set(11, 2, 88);
        x.set(11, 3, 9);
        x.hour(3);
        x.hang(0, 11);
        x.hang(11, 104);
        int[] last = {1, 7, 88, 9, 104, 15, 30, 79, 1, 2049};
        int[] first = {0, 10, 50, 0, 11, 15, 15, 50, 2, 1};
        for (int what = 0; what < 10; what++) {
            Due.due("5 of(11, " + what + ")", x.of(11, what), last[what]);
            Due.due("5 of(0, " + what + ")", x.of(0, what), first[what]);
        }
        Due.due("5 of(11, -1)", x.of(11, -1), Due.BEYOND);
        Due.due("5 of(11, 10)", x.of(11, 10), Due.BEYOND);
        Due.due("5 of(12, 0)", x.of(12, 0), Due.BEYOND);
        Due.due("5 of(-1, 0)", x.of(-1, 0), Due.BEYOND);
    }

    /** "SIZE (what 1), what it BEARS (2), WORN (3) of a SHIP becomes v: what it was." */
    private static void setWhatItWas() {
        AnchorString x = Due.ships(12, 0, 10);
        int[][] rows = {{1, 2, 10}, {1, 1, 2}, {1, 98, 1}, {1, 99, 98}, {2, 1, 50}, {2, 0, 1}, {2, 9998, 0}, {2, 9999, 9998},
            {3, 98, 0}, {3, 99, 98}, {3, 1, 99}, {3, 0, 1}, {3, 0, 0}};
        for (int[] row : rows) {
            Due.due("6 set(11, " + row[0] + ", " + row[1] + ")", x.set(11, row[0], row[1]), row[2]);
            Due.due("6 set(0, " + row[0] + ", " + row[1] + ")", x.set(0, row[0], row[1]), row[2]);
        }
        Due.due("6 set(11, 0, 1), no KIND", x.set(11, 0, 1), Due.BEYOND);
        Due.due("6 set(11, 4, 1), no thing to hang on", x.set(11, 4, 1), Due.BEYOND);
    }

    private static void setLeavesTheOthers() {
        AnchorString x = Due.ships(3, 0, 10);
        x.hang(1, 100);
        x.set(1, 1, 99);
        x.set(1, 2, 0);
        x.set(1, 3, 99);
        Due.due("6 it hangs ahead of an hour", x.of(1, 4), 100);
        for (int s = 0; s < 3; s += 2) {
            Due.due("6 size of " + s, x.of(s, 1), 10);
            Due.due("6 bears of " + s, x.of(s, 2), 50);
            Due.due("6 worn of " + s, x.of(s, 3), 0);
        }
    }

    /** "A SHIP HANGS on what is told (a number as above, -1 too): on what it did." */
    private static void hangOnWhatItDid() {
        AnchorString x = Due.ships(12, 0, 10);
        int[] things = {-1, 100, 105, 0, 10, -1, -1, 11};
        int was = -1;
        for (int thing : things) {
            Due.due("7 hang(5, " + thing + ")", x.hang(5, thing), was);
            Due.due("7 of(5, 4)", x.of(5, 4), thing);
            was = thing;
        }
    }

    private static void hangOnTheSame() {
        AnchorString x = Due.told("ship at 0; ship on 0; ship");
        Due.due("7 the same anchor", x.hang(0, 100), 100);
        Due.due("7 the same ship", x.hang(1, 0), 0);
        Due.due("7 adrift already", x.hang(2, -1), -1);
        Due.due("7 status(-1)", x.status(-1), 0);
    }

    private static void hangTakesTheStringAlong() {
        AnchorString x = Due.told("ship at 0; ship on 0; ship on 1; ship at 5");
        Due.due("7 hang(1, 3)", x.hang(1, 3), 0);
        Due.due("7 who is on anchor 5", x.anchorOf(5, 3), 2 + 4 + 8);
        Due.due("7 hang(1, -1)", x.hang(1, -1), 3);
        Due.due("7 who is lost", x.lost(), 2 + 4);
    }

    /** "A SHIP becomes one of another KIND: what it was.": all else stays. */
    private static void turnToEachKind() {
        AnchorString x = Due.told("ship size 7 bears 8 worn 3 at 2; ship on 0");
        int was = 0;
        for (int kind : new int[] {5, 4, 3, 2, 1, 0, 5, 5}) {
            Due.due("8 turn(0, " + kind + ")", x.turn(0, kind), was);
            Due.due("8 of(0, 0)", x.of(0, 0), kind);
            was = kind;
        }
        Due.due("8 size", x.of(0, 1), 7);
        Due.due("8 bears", x.of(0, 2), 8);
        Due.due("8 worn", x.of(0, 3), 3);
        Due.due("8 hangs", x.of(0, 4), 102);
        Due.due("8 another", x.of(1, 0), 0);
    }

    /** "KIND: it isn't of that kind, nor of one under it.": each kind as each. */
    private static void asEachKind() {
        int[][] fine = {{0}, {0, 1}, {0, 2}, {0, 3}, {0, 1, 4}, {0, 2, 5}};
        AnchorString x = Due.ships(1, 0, 10);
        for (int kind = 0; kind < 6; kind++) {
            x.turn(0, kind);
            for (int as = 0; as < 6; as++) {
                int want = Due.KIND;
                for (int f : fine[kind]) {
                    want = f == as ? 10 : want;
                }
                Due.due("9 one of " + kind + " as(0, " + as + ")", x.as(0, as), want);
            }
            Due.due("9 one of " + kind + " as(0, 6)", x.as(0, 6), Due.BEYOND);
            Due.due("9 one of " + kind + " as(0, -1)", x.as(0, -1), Due.BEYOND);
        }
    }

    private static void asTellsSize() {
        AnchorString x = Due.ships(12, 5, 1);
        Due.due("9 as(11, 0), least", x.as(11, 0), 1);
        x.set(11, 1, 99);
        Due.due("9 as(11, 2), most", x.as(11, 2), 99);
        Due.due("9 as(0, 5), another", x.as(0, 5), 1);
    }

    /** "ODDS of a WIND become v: what they were." */
    private static void oddsWhatTheyWere() {
        AnchorString x = new AnchorString();
        int was = 1;
        for (int v : new int[] {1, 0, 0, 98, 99, 99, 1}) {
            Due.due("10 odds(12, " + v + ")", x.odds(12, v), was);
            Due.due("10 count(3)", x.count(3), 12 + v);
            was = v;
        }
    }
}
