/** Promises 1 to 10. */
public final class AnchorsAndShipsTest {
    public static void main(String[] args) {
        newObject();
        anchor();
        anchorOf();
        ship();
        of();
        set();
        hang();
        turn();
        as();
        odds();
        Due.end();
    }

    private static void newObject() {
        AnchorString x = new AnchorString();
        Due.due("1 count(0)", x.count(0), 0);
        Due.due("1 count(1)", x.count(1), 0);
        Due.due("1 count(2)", x.count(2), 0);
        Due.due("1 count(3)", x.count(3), 13);
        Due.due("1 now(0)", x.now(0), 0);
        Due.due("1 now(1)", x.now(1), 0);
        Due.due("1 now(2)", x.now(2), 0);
        Due.due("1 now(3)", x.now(3), 0);
        Due.due("1 now(4)", x.now(4), 0);
        for (int a = 0; a < 6; a++) {
            Due.due("1 anchorOf(a, 0)", x.anchorOf(a, 0), 100);
        }
        for (int w = 0; w < 13; w++) {
            Due.due("1 odds(w, 1)", x.odds(w, 1), 1);
        }
        Due.due("1 status(-1)", x.status(-1), 0);
        Due.due("1 undo()", x.undo(), Due.NONE);
        Due.due("1 tear()", x.tear(), 0);
        for (int s = 0; s < 4; s++) {
            Due.due("1 write(s, 0, 0)", x.write(s, 0, 0), Due.MISSING);
        }
        Due.due("1 of(0, 0)", x.of(0, 0), Due.BEYOND);
    }

    private static void anchor() {
        AnchorString x = new AnchorString();
        Due.due("2 anchor(0, 9999)", x.anchor(0, 9999), 100);
        Due.due("2 anchor(0, 0)", x.anchor(0, 0), 9999);
        Due.due("2 anchor(5, 7)", x.anchor(5, 7), 100);
        Due.due("2 anchorOf(0, 0)", x.anchorOf(0, 0), 0);
        Due.due("2 anchorOf(5, 0)", x.anchorOf(5, 0), 7);
        Due.due("2 anchorOf(1, 0)", x.anchorOf(1, 0), 100);
        Due.due("2 anchor(-1, 5)", x.anchor(-1, 5), Due.BEYOND);
        Due.due("2 anchor(6, 5)", x.anchor(6, 5), Due.BEYOND);
        Due.due("2 anchor(0, -1)", x.anchor(0, -1), Due.BEYOND);
        Due.due("2 anchor(0, 10000)", x.anchor(0, 10000), Due.BEYOND);
        Due.due("2 anchorOf(0, 0)", x.anchorOf(0, 0), 0);
        Due.due("2 status(0)", x.status(0), 4);
    }

    private static void anchorOf() {
        AnchorString x = Due.told("ship at 2; tall on 0; towed on 1; ship at 2; ship; ship on 4; dragging at 5");
        x.anchor(2, 9999);
        x.hour(1);
        Due.due("3 anchorOf(2, 0)", x.anchorOf(2, 0), 9999);
        Due.due("3 anchorOf(2, 1)", x.anchorOf(2, 1), 5 + 7 + 2 + 5);
        Due.due("3 anchorOf(2, 2)", x.anchorOf(2, 2), 1 + 8);
        Due.due("3 anchorOf(2, 3)", x.anchorOf(2, 3), 1 + 2 + 4 + 8);
        Due.due("3 anchorOf(5, 1)", x.anchorOf(5, 1), 10);
        Due.due("3 anchorOf(5, 2)", x.anchorOf(5, 2), 64);
        Due.due("3 anchorOf(0, 1)", x.anchorOf(0, 1), 0);
        Due.due("3 anchorOf(0, 2)", x.anchorOf(0, 2), 0);
        Due.due("3 anchorOf(0, 3)", x.anchorOf(0, 3), 0);
        x.hang(6, 100);
        Due.due("3 anchorOf(5, 1), at once", x.anchorOf(5, 1), 0);
        Due.due("3 anchorOf(0, 1), at once", x.anchorOf(0, 1), 10);
        x.set(6, 1, 20);
        Due.due("3 anchorOf(0, 1), at once", x.anchorOf(0, 1), 15);
        Due.due("3 anchorOf(-1, 0)", x.anchorOf(-1, 0), Due.BEYOND);
        Due.due("3 anchorOf(6, 0)", x.anchorOf(6, 0), Due.BEYOND);
        Due.due("3 anchorOf(0, -1)", x.anchorOf(0, -1), Due.BEYOND);
        Due.due("3 anchorOf(0, 4)", x.anchorOf(0, 4), Due.BEYOND);
    }

    private static void ship() {
        AnchorString x = new AnchorString();
        Due.due("4 ship(-1, 5)", x.ship(-1, 5), Due.BEYOND);
        Due.due("4 ship(6, 5)", x.ship(6, 5), Due.BEYOND);
        Due.due("4 ship(0, 0)", x.ship(0, 0), Due.BEYOND);
        Due.due("4 ship(0, 100)", x.ship(0, 100), Due.BEYOND);
        for (int s = 0; s < 12; s++) {
            Due.due("4 ship", x.ship(s % 6, s == 0 ? 1 : s == 1 ? 99 : s), s);
        }
        for (int s = 0; s < 12; s++) {
            Due.due("4 of(s, 0)", x.of(s, 0), s % 6);
            Due.due("4 of(s, 1)", x.of(s, 1), s == 0 ? 1 : s == 1 ? 99 : s);
            Due.due("4 of(s, 2)", x.of(s, 2), 50);
            Due.due("4 of(s, 3)", x.of(s, 3), 0);
            Due.due("4 of(s, 4)", x.of(s, 4), -1);
        }
        Due.due("4 ship(0, 5)", x.ship(0, 5), Due.FULL);
        Due.due("4 ship(0, 0)", x.ship(0, 0), Due.BEYOND);
        Due.due("4 ship(6, 5)", x.ship(6, 5), Due.BEYOND);
        Due.due("4 status(1)", x.status(1), 1);
        Due.due("4 count(0)", x.count(0), 12);
    }

    private static void of() {
        AnchorString x = Due.told("ship size 9 bears 9999 at 0; tall size 9 bears 9999 on 0; towed size 9 bears 9999 on 1",
                "dragging size 9 bears 9999 on 1; burning size 9 bears 500 worn 99 on 3;smuggler size 9 bears 99 on 4",
                "smuggler size 9 bears 101 on 4; ship size 9; ship size 9 on 7; anchor 0 9999");
        int[] kinds = {0, 1, 2, 3, 4, 5, 5, 0, 0};
        int[] on = {100, 0, 1, 1, 3, 4, 4, -1, 7};
        int[] depth = {1, 2, 3, 3, 4, 5, 5, 0, 0};
        int[] string = {127, 126, 4, 120, 112, 32, 64, 384, 256};
        int[] breaks = {9999, 9999, 9999, 50, 401, 49, 50, 50, 50};
        x.set(3, 2, 50);
        int[] pullIn0 = {0, 0, 0, 5, 20, 0, 0, 0, 0};
        for (int s = 0; s < 9; s++) {
            Due.due("5 of(s, 0)", x.of(s, 0), kinds[s]);
            Due.due("5 of(s, 1)", x.of(s, 1), 9);
            Due.due("5 of(s, 4)", x.of(s, 4), on[s]);
            Due.due("5 of(s, 5) in 0", x.of(s, 5), pullIn0[s]);
            Due.due("5 of(s, 7)", x.of(s, 7), breaks[s]);
            Due.due("5 of(s, 8)", x.of(s, 8), depth[s]);
            Due.due("5 of(s, 9)", x.of(s, 9), string[s]);
        }
        Due.due("5 of(4, 2)", x.of(4, 2), 500);
        Due.due("5 of(4, 3)", x.of(4, 3), 99);
        x.set(3, 2, 9999);
        x.hour(3);
        int[] pullIn3 = {13, 19, 6, 18, 39, 0, 0, 13, 13};
        int[] strainIn3 = {95, 82, 6, 57, 39, 0, 0, 26, 13};
        for (int s = 0; s < 9; s++) {
            Due.due("5 of(s, 5) in 3", x.of(s, 5), pullIn3[s]);
            Due.due("5 of(s, 6) in 3", x.of(s, 6), strainIn3[s]);
        }
        x.hour(4);
        int[] pullIn4 = {18, 27, 9, 23, 47, 9, 9, 18, 18};
        int[] strainIn4 = {142, 124, 9, 88, 65, 9, 9, 36, 18};
        for (int s = 0; s < 9; s++) {
            Due.due("5 of(s, 5) in 4", x.of(s, 5), pullIn4[s]);
            Due.due("5 of(s, 6) in 4", x.of(s, 6), strainIn4[s]);
        }
        x.hang(8, 6);
        Due.due("5 of(6, 6), at once", x.of(6, 6), 27);
        Due.due("5 of(7, 6), at once", x.of(7, 6), 18);
        Due.due("5 of(-1, 0)", x.of(-1, 0), Due.BEYOND);
        Due.due("5 of(9, 0)", x.of(9, 0), Due.BEYOND);
        Due.due("5 of(100, 0)", x.of(100, 0), Due.BEYOND);
        Due.due("5 of(0, -1)", x.of(0, -1), Due.BEYOND);
        Due.due("5 of(0, 10)", x.of(0, 10), Due.BEYOND);
        x.set(0, 2, 10);
        x.set(0, 3, 20);
        Due.due("5 of(0, 7), more worn than it bears", x.of(0, 7), 0);
    }

    private static void set() {
        AnchorString x = new AnchorString();
        x.ship(0, 10);
        x.ship(1, 20);
        Due.due("6 set(1, 1, 99)", x.set(1, 1, 99), 20);
        Due.due("6 set(1, 1, 1)", x.set(1, 1, 1), 99);
        Due.due("6 set(1, 2, 9999)", x.set(1, 2, 9999), 50);
        Due.due("6 set(1, 2, 0)", x.set(1, 2, 0), 9999);
        Due.due("6 set(1, 3, 99)", x.set(1, 3, 99), 0);
        Due.due("6 set(1, 3, 0)", x.set(1, 3, 0), 99);
        Due.due("6 set(1, 3, 3)", x.set(1, 3, 3), 0);
        Due.due("6 of(1, 1)", x.of(1, 1), 1);
        Due.due("6 of(1, 2)", x.of(1, 2), 0);
        Due.due("6 of(1, 3)", x.of(1, 3), 3);
        int[][] beyond = {{-1, 1, 5}, {2, 1, 5}, {0, 0, 1}, {0, 4, 1}, {0, 1, 0}, {0, 1, 100},
            {0, 2, -1}, {0, 2, 10000}, {0, 3, -1}, {0, 3, 100}};
        for (int[] b : beyond) {
            Due.due("6 set, beyond", x.set(b[0], b[1], b[2]), Due.BEYOND);
        }
        Due.due("6 of(0, 1)", x.of(0, 1), 10);
        Due.due("6 of(0, 2)", x.of(0, 2), 50);
        Due.due("6 of(0, 3)", x.of(0, 3), 0);
    }

    private static void hang() {
        AnchorString x = new AnchorString();
        for (int s = 0; s < 4; s++) {
            x.ship(0, 10);
        }
        Due.due("7 hang(0, 100)", x.hang(0, 100), -1);
        Due.due("7 hang(0, 105)", x.hang(0, 105), 100);
        Due.due("7 hang(1, 0)", x.hang(1, 0), -1);
        Due.due("7 hang(2, 1)", x.hang(2, 1), -1);
        Due.due("7 hang(0, 1)", x.hang(0, 1), Due.STATE);
        Due.due("7 hang(0, 2)", x.hang(0, 2), Due.STATE);
        Due.due("7 hang(1, 2)", x.hang(1, 2), Due.STATE);
        Due.due("7 of(0, 4)", x.of(0, 4), 105);
        Due.due("7 hang(2, 0)", x.hang(2, 0), 1);
        Due.due("7 hang(1, 2)", x.hang(1, 2), 0);
        Due.due("7 hang(0, -1)", x.hang(0, -1), 105);
        Due.due("7 hang(0, 2), itself adrift", x.hang(0, 2), Due.STATE);
        Due.due("7 hang(0, -1)", x.hang(0, -1), -1);
        Due.due("7 hang(0, 0)", x.hang(0, 0), Due.BEYOND);
        Due.due("7 hang(0, -2)", x.hang(0, -2), Due.BEYOND);
        Due.due("7 hang(0, 4)", x.hang(0, 4), Due.BEYOND);
        Due.due("7 hang(0, 99)", x.hang(0, 99), Due.BEYOND);
        Due.due("7 hang(0, 106)", x.hang(0, 106), Due.BEYOND);
        Due.due("7 hang(-1, 100)", x.hang(-1, 100), Due.BEYOND);
        Due.due("7 hang(-1, -1)", x.hang(-1, -1), Due.BEYOND);
        Due.due("7 hang(4, 100)", x.hang(4, 100), Due.BEYOND);
        Due.due("7 hang(3, 1)", x.hang(3, 1), -1);
        Due.due("7 of(3, 4)", x.of(3, 4), 1);
    }

    private static void turn() {
        AnchorString x = new AnchorString();
        x.ship(5, 10);
        Due.due("8 turn(0, 0)", x.turn(0, 0), 5);
        Due.due("8 turn(0, 4)", x.turn(0, 4), 0);
        Due.due("8 turn(0, 4)", x.turn(0, 4), 4);
        Due.due("8 of(0, 0)", x.of(0, 0), 4);
        Due.due("8 turn(0, 5)", x.turn(0, 5), 4);
        Due.due("8 of(0, 7)", x.of(0, 7), 25);
        Due.due("8 turn(0, 6)", x.turn(0, 6), Due.BEYOND);
        Due.due("8 turn(0, -1)", x.turn(0, -1), Due.BEYOND);
        Due.due("8 turn(1, 0)", x.turn(1, 0), Due.BEYOND);
        Due.due("8 turn(-1, 0)", x.turn(-1, 0), Due.BEYOND);
        Due.due("8 of(0, 0)", x.of(0, 0), 5);
    }

    private static void as() {
        AnchorString x = new AnchorString();
        String[] under = {"100000", "110000", "101000", "100100", "110010", "101001"};
        for (int k = 0; k < 6; k++) {
            x.ship(k, 20 + k);
            for (int above = 0; above < 6; above++) {
                Due.due("9 as(" + k + ", " + above + ")", x.as(k, above),
                        under[k].charAt(above) == '1' ? 20 + k : Due.KIND);
            }
        }
        Due.due("9 as(6, 0)", x.as(6, 0), Due.BEYOND);
        Due.due("9 as(-1, 0)", x.as(-1, 0), Due.BEYOND);
        Due.due("9 as(0, 6)", x.as(0, 6), Due.BEYOND);
        Due.due("9 as(0, -1)", x.as(0, -1), Due.BEYOND);
        Due.due("9 status(2)", x.status(2), 36 - 13);
    }

    private static void odds() {
        AnchorString x = new AnchorString();
        Due.due("10 odds(0, 99)", x.odds(0, 99), 1);
        Due.due("10 odds(12, 0)", x.odds(12, 0), 1);
        Due.due("10 odds(12, 5)", x.odds(12, 5), 0);
        Due.due("10 odds(0, 99)", x.odds(0, 99), 99);
        Due.due("10 count(3)", x.count(3), 99 + 11 + 5);
        Due.due("10 odds(13, 1)", x.odds(13, 1), Due.BEYOND);
        Due.due("10 odds(-1, 1)", x.odds(-1, 1), Due.BEYOND);
        Due.due("10 odds(0, -1)", x.odds(0, -1), Due.BEYOND);
        Due.due("10 odds(0, 100)", x.odds(0, 100), Due.BEYOND);
        Due.due("10 count(3)", x.count(3), 99 + 11 + 5);
    }
}
