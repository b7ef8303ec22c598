/** Promises 21 to 26. */
public final class LeavingTest {
    public static void main(String[] args) {
        free();
        ahead();
        place();
        placeAmongShips();
        best();
        cut();
        canCut();
        Due.end();
    }

    private static void free() {
        AnchorString x = Due.told("ship at 0; ship on 0; ship on 0; ship; ship on 3; ship; ship at 5");
        Due.due("21 free()", x.free(), 2 + 4 + 16 + 64);
        x.hang(1, -1);
        x.hang(2, -1);
        Due.due("21 free()", x.free(), 1 + 16 + 64);
        x.hang(1, 0);
        x.hang(2, 0);
        x.hang(6, 2);
        Due.due("21 free()", x.free(), 2 + 16 + 64);
        x.hang(6, -1);
        Due.due("21 free()", x.free(), 2 + 4 + 16);
    }

    private static void ahead() {
        AnchorString x = Due.told("ship at 0; ship on 0; ship on 1; ship; ship on 3; ship on 1");
        Due.due("22 ahead(0)", x.ahead(0), 3);
        Due.due("22 ahead(1)", x.ahead(1), 2);
        Due.due("22 ahead(2)", x.ahead(2), 0);
        Due.due("22 ahead(3)", x.ahead(3), 1);
        Due.due("22 ahead(6)", x.ahead(6), Due.BEYOND);
        Due.due("22 ahead(-1)", x.ahead(-1), Due.BEYOND);
    }

    private static void place() {
        AnchorString x = Due.told("ship at 0; ship");
        Due.due("23 place(1, 10)", x.place(1, 10), 100);
        x.anchor(0, 99);
        Due.due("23 place(1, 10), that one is full", x.place(1, 10), 101);
        Due.due("23 place(1, 11), its chain and another's", x.place(1, 11), Due.NONE);
        x.set(0, 2, 99);
        Due.due("23 place(1, 11), its own chain", x.place(1, 11), Due.NONE);
        Due.due("23 place(1, 0)", x.place(1, 0), 100);
        Due.due("23 place(0, 2), where it hangs", x.place(0, 2), 100);
        Due.due("23 place(2, 0)", x.place(2, 0), Due.BEYOND);
        Due.due("23 place(-1, 0)", x.place(-1, 0), Due.BEYOND);
        Due.due("23 place(0, 13)", x.place(0, 13), Due.BEYOND);
        Due.due("23 place(0, -1)", x.place(0, -1), Due.BEYOND);
        Due.due("23 nothing changed", x.of(1, 4), -1);
        Due.due("23 nothing changed", x.of(0, 4), 100);
    }

    private static void placeAmongShips() {
        String anchors = "anchor 0 0;anchor 1 0;anchor 2 0;anchor 3 0;anchor 4 0;anchor 5 40";
        AnchorString x = Due.told(anchors, "ship size 1; ship size 1 on 0; ship size 1 on 1; ship size 1 at 5; ship size 10");
        Due.due("23 place(4, 4), anchor 5", x.place(4, 4), 105);
        x.hang(0, 3);
        x.hang(3, 105);
        x.anchor(5, 9999);
        x.set(4, 2, 20);
        x.set(3, 2, 27);
        Due.due("23 place(4, 4), an anchor ahead of ships", x.place(4, 4), 105);
        x.anchor(5, 27);
        Due.due("23 place(4, 4), anchor 5 is too weak", x.place(4, 4), Due.NONE);
        x = Due.told(anchors, "anchor 5 200; burning size 1 bears 200 at 5; ship size 2 on 0; ship size 2 on 1; ship size 2 on 2");
        Due.due("23 place(0, 0), not on its own string", x.place(0, 0), 105);
        Due.due("23 place(3, 1), least depth", x.place(3, 1), 105);
        x = Due.told("ship; ship on 0; ship");
        Due.due("23 place(2, 0), never on a lost one", x.place(2, 0), 100);
        Due.due("23 place(0, 0), it takes its string along", x.place(0, 5), 100);
        Due.due("23 place(0, 6)", x.place(0, 6), Due.NONE);
        x.set(0, 2, 60);
        Due.due("23 place(0, 6)", x.place(0, 6), 100);
        Due.due("23 place(1, 6)", x.place(1, 6), 100);
    }

    private static void best() {
        AnchorString x = Due.told("ship at 0; ship size 2; anchor 3 9999; anchor 4 9999");
        // Ship 0 parts above 10 wherever ship 1 hangs, and below it with ship 1 on it.
        Due.due("24 best(1), of several the least", x.best(1), 100);
        x.set(0, 2, 9999);
        Due.due("24 best(1), hung on ship 0", x.best(1), 0);
        x.anchor(0, 65);
        Due.due("24 best(1), anchor 0 bears less", x.best(1), 101);
        Due.due("24 best(0), wherever it holds", x.best(0), 100);
        x.hang(0, -1);
        Due.due("24 best(1), ship 0 is lost", x.best(1), 100);
        x = Due.told("anchor 0 0;anchor 1 0;anchor 2 0;anchor 3 0;anchor 4 0;anchor 5 0;dragging");
        Due.due("24 best(0), in none", x.best(0), Due.NONE);
        Due.due("24 best(1)", x.best(1), Due.BEYOND);
        Due.due("24 best(-1)", x.best(-1), Due.BEYOND);
        Due.due("24 nothing changed", x.of(0, 4), -1);
        x.anchor(4, 5);
        Due.due("24 best(0), in wind 0 alone", x.best(0), 104);
        x = Due.told("dragging at 0; anchor 0 0; ship");
        Due.due("24 best(1), another doesn't hold in any", x.best(1), Due.NONE);
    }

    private static void cut() {
        AnchorString x = Due.told("ship at 4; burning on 0; ship on 1; tall on 1; ship on 3; ship");
        Due.due("25 cut(5)", x.cut(5), Due.STATE);
        Due.due("25 cut(6)", x.cut(6), Due.BEYOND);
        Due.due("25 cut(-1)", x.cut(-1), Due.BEYOND);
        Due.due("25 cut(1)", x.cut(1), 2);
        Due.due("25 of(1, 4)", x.of(1, 4), -1);
        Due.due("25 of(2, 4)", x.of(2, 4), 0);
        Due.due("25 of(3, 4)", x.of(3, 4), 0);
        Due.due("25 of(4, 4)", x.of(4, 4), 3);
        Due.due("25 cut(1)", x.cut(1), Due.STATE);
        Due.due("25 cut(4)", x.cut(4), 0);
        Due.due("25 cut(0)", x.cut(0), 2);
        Due.due("25 of(2, 4)", x.of(2, 4), 104);
        Due.due("25 of(3, 4)", x.of(3, 4), 104);
        x.hang(2, 5);
        Due.due("25 cut(2), on one adrift", x.cut(2), 0);
        x.hang(5, 0);
        x.hang(2, 5);
        Due.due("25 cut(5), on one adrift", x.cut(5), 1);
        Due.due("25 of(2, 4)", x.of(2, 4), 0);
    }

    private static void canCut() {
        AnchorString x = Due.told("anchor 0 999; ship bears 199 at 0; burning size 1 bears 99 on 0; ship bears 50 on 1; ship");
        Due.due("26 canCut(1, 10)", x.canCut(1, 10), 1);
        Due.due("26 canCut(1, 11)", x.canCut(1, 11), 0);
        x.set(0, 2, 90);
        Due.due("26 canCut(1, 9), without what it pulls", x.canCut(1, 9), 1);
        Due.due("26 canCut(2, 9)", x.canCut(2, 9), 1);
        Due.due("26 canCut(1, 10)", x.canCut(1, 10), 0);
        Due.due("26 canCut(0, 10)", x.canCut(0, 10), 1);
        Due.due("26 canCut(3, 0)", x.canCut(3, 0), Due.STATE);
        Due.due("26 canCut(3, 13)", x.canCut(3, 13), Due.BEYOND);
        Due.due("26 canCut(0, -1)", x.canCut(0, -1), Due.BEYOND);
        Due.due("26 canCut(4, 0)", x.canCut(4, 0), Due.BEYOND);
        Due.due("26 canCut(-1, 0)", x.canCut(-1, 0), Due.BEYOND);
        Due.due("26 nothing changed", x.of(2, 4), 1);
        Due.due("26 nothing changed", x.adrift(), 8);
    }
}
