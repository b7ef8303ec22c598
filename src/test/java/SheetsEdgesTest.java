/** Boundary cases of promises 35 to 40; those of refused calls stand in RefusalsTest. */
public final class SheetsEdgesTest {
    public static void main(String[] args) {
        sheetLengths();
        sheetMissing();
        sheetAllZero();
        sheetOrder();
        writeWrapsAround();
        writeFirstAndLast();
        writeLikeAFinding();
        copyAll();
        copyNone();
        copyOverItself();
        copyEachBits();
        laysOf0To99();
        laysStandForNone();
        laysWrapped();
        dawnAsFarAsItHas();
        dawnEachBits();
        readAsFarAsThereAreBoth();
        readLeastWind();
        readByNoWind();
        readOfAll();
        Due.end();
    }

    /** "A sheet has n numbers ..: n" */
    private static void sheetLengths() {
        AnchorString x = new AnchorString();
        for (int bits : new int[] {8, 16, 64}) {
            for (int n : new int[] {0, 1, 39, 40}) {
                Due.due("35 sheet(3, " + bits + ", " + n + ")", x.sheet(3, bits, n), n);
                Due.due("35 number n", x.write(3, n, 1), Due.BEYOND);
                Due.due("35 number n - 1", x.write(3, n - 1, 1), n == 0 ? Due.BEYOND : 0);
            }
            Due.due("35 n 41", x.sheet(3, bits, 41), Due.BEYOND);
            Due.due("35 n -1", x.sheet(3, bits, -1), Due.SIZE);
        }
    }

    /** "bits 0: it is MISSING: n (0 if it is MISSING)." */
    private static void sheetMissing() {
        AnchorString x = new AnchorString();
        for (int n : new int[] {0, 1, 40}) {
            x.sheet(1, 8, 5);
            Due.due("35 sheet(1, 0, " + n + ")", x.sheet(1, 0, n), 0);
            Due.due("35 it is missing", x.write(1, 0, 0), Due.MISSING);
            Due.due("35 already", x.sheet(1, 0, n), 0);
        }
        x.sheet(1, 8, 5);
        Due.due("35 sheet(1, 0, 41)", x.sheet(1, 0, 41), Due.BEYOND);
        Due.due("35 sheet(1, 0, -1)", x.sheet(1, 0, -1), Due.SIZE);
        Due.due("35 it is there still", x.write(1, 4, 0), 0);
        x.sheet(1, 64, 0);
        Due.due("35 a sheet of none isn't missing", x.write(1, 0, 0), Due.BEYOND);
    }

    /** "all 0" */
    private static void sheetAllZero() {
        AnchorString x = new AnchorString();
        x.sheet(0, 64, 40);
        for (int i = 0; i < 40; i++) {
            x.write(0, i, -1);
        }
        Due.due("35 shorter", x.sheet(0, 64, 3), 3);
        Due.same("35 row", Due.row(x, 0), "0 0 0 -1000000001");
        x.write(0, 2, 5);
        Due.due("35 longer", x.sheet(0, 16, 40), 40);
        for (int i = 0; i < 40; i++) {
            Due.due("35 number " + i, x.write(0, i, 7), 0);
        }
        x.sheet(0, 0, 0);
        x.sheet(0, 8, 1);
        Due.due("35 there again", x.write(0, 0, 1), 0);
    }

    /** "BEYOND: no such sheet, other bits. SIZE: n is below 0 .. BEYOND: n is above 40" */
    private static void sheetOrder() {
        AnchorString x = new AnchorString();
        Due.due("35 sheet(4, 7, -1)", x.sheet(4, 7, -1), Due.BEYOND);
        Due.due("35 sheet(0, 7, -1)", x.sheet(0, 7, -1), Due.BEYOND);
        Due.due("35 sheet(0, 8, -1)", x.sheet(0, 8, -1), Due.SIZE);
        Due.due("35 sheet(0, 8, 41)", x.sheet(0, 8, 41), Due.BEYOND);
        Due.due("45 BEYOND", x.status(0), 3);
        Due.due("45 SIZE", x.status(6), 1);
    }

    /** "Number i of a sheet becomes v (its lowest bits): what it was." */
    private static void writeWrapsAround() {
        AnchorString x = new AnchorString();
        x.sheet(0, 8, 1);
        x.sheet(1, 16, 1);
        x.sheet(2, 64, 1);
        long[][] rows = {{127, 127, 127}, {128, -128, 128}, {255, -1, 255}, {256, 0, 256}, {-128, -128, -128}, {-129, 127, -129},
            {-1, -1, -1}, {32767, -1, 32767}, {32768, 0, -32768}, {65535, -1, -1}, {65536, 0, 0}, {-32768, 0, -32768},
            {-32769, -1, 32767}, {0x7fffffffL, -1, -1}, {0x80000000L, 0, 0}, {0x100000001L, 1, 1}, {Long.MAX_VALUE, -1, -1},
            {Long.MIN_VALUE, 0, 0}};
        for (long[] row : rows) {
            x.write(0, 0, row[0]);
            x.write(1, 0, row[0]);
            x.write(2, 0, row[0]);
            Due.due("36 8 bits of " + row[0], x.write(0, 0, 0), row[1]);
            Due.due("36 16 bits of " + row[0], x.write(1, 0, 0), row[2]);
            Due.due("36 64 bits of " + row[0], x.write(2, 0, 0), row[0]);
        }
    }

    /** "BEYOND: no such number." */
    private static void writeFirstAndLast() {
        AnchorString x = new AnchorString();
        x.sheet(0, 16, 40);
        Due.due("36 the first", x.write(0, 0, 5), 0);
        Due.due("36 the last", x.write(0, 39, 6), 0);
        Due.due("36 behind the last", x.write(0, 40, 7), Due.BEYOND);
        Due.due("36 ahead of the first", x.write(0, -1, 7), Due.BEYOND);
        Due.due("36 the first", x.write(0, 0, 0), 5);
        Due.due("36 the last", x.write(0, 39, 0), 6);
        Due.due("36 none between", x.write(0, 1, 0) + x.write(0, 38, 0), 0);
        x.sheet(1, 8, 0);
        Due.due("36 of none", x.write(1, 0, 0), Due.BEYOND);
    }

    /** A number that looks like a finding is none, and counts for none. */
    private static void writeLikeAFinding() {
        AnchorString x = new AnchorString();
        x.sheet(0, 64, 1);
        for (int f = 1; f <= 7; f++) {
            x.write(0, 0, -1000000000 - f);
            Due.due("36 number " + (-1000000000 - f), x.write(0, 0, 0), -1000000000 - f);
        }
        Due.due("45 status(-1)", x.status(-1), 0);
    }

    private static AnchorString counted(int bits, int n) {
        AnchorString x = new AnchorString();
        for (int s = 0; s < 2; s++) {
            x.sheet(s, bits, n);
        }
        for (int i = 0; i < n; i++) {
            x.write(0, i, i + 1);
        }
        return x;
    }

    /** "n numbers of a sheet from one on come to another one from one on: n." */
    private static void copyAll() {
        AnchorString x = counted(16, 40);
        Due.due("37 all of 40", x.copy(0, 0, 1, 0, 40), 40);
        Due.same("37 row", Due.row(x, 1), Due.row(x, 0));
        Due.due("37 41", x.copy(0, 0, 1, 0, 41), Due.BEYOND);
        Due.due("37 40 from 1 on", x.copy(0, 1, 1, 0, 40), Due.BEYOND);
        Due.due("37 40 to 1 on", x.copy(0, 0, 1, 1, 40), Due.BEYOND);
        x = counted(16, 4);
        Due.due("37 the last to the first", x.copy(0, 3, 1, 0, 1), 1);
        Due.due("37 the first to the last", x.copy(0, 0, 1, 3, 1), 1);
        Due.same("37 row", Due.row(x, 1), "4 0 0 1 -1000000001");
    }

    /** "BEYOND: one has not so many, or from, to or n is below 0.": none may be copied at the very end. */
    private static void copyNone() {
        AnchorString x = counted(8, 4);
        Due.due("37 none", x.copy(0, 0, 1, 0, 0), 0);
        Due.due("37 none, from the end", x.copy(0, 4, 1, 0, 0), 0);
        Due.due("37 none, to the end", x.copy(0, 0, 1, 4, 0), 0);
        Due.due("37 none, from behind the end", x.copy(0, 5, 1, 0, 0), Due.BEYOND);
        Due.due("37 none, to behind the end", x.copy(0, 0, 1, 5, 0), Due.BEYOND);
        Due.due("37 none, from -1", x.copy(0, -1, 1, 0, 0), Due.BEYOND);
        Due.due("37 none, to -1", x.copy(0, 0, 1, -1, 0), Due.BEYOND);
        Due.due("37 -1", x.copy(0, 1, 1, 1, -1), Due.BEYOND);
        Due.same("37 row", Due.row(x, 1), "0 0 0 0 -1000000001");
        x.sheet(2, 8, 0);
        Due.due("37 none of none", x.copy(2, 0, 2, 0, 0), 0);
        Due.due("37 one of none", x.copy(2, 0, 1, 0, 1), Due.BEYOND);
    }

    /** "(as they all were)" */
    private static void copyOverItself() {
        AnchorString x = counted(64, 5);
        Due.due("37 one forth", x.copy(0, 0, 0, 1, 4), 4);
        Due.same("37 row", Due.row(x, 0), "1 1 2 3 4 -1000000001");
        x = counted(64, 5);
        Due.due("37 one back", x.copy(0, 1, 0, 0, 4), 4);
        Due.same("37 row", Due.row(x, 0), "2 3 4 5 5 -1000000001");
        Due.due("37 onto itself", x.copy(0, 0, 0, 0, 5), 5);
        Due.same("37 row", Due.row(x, 0), "2 3 4 5 5 -1000000001");
    }

    /** "KIND: they are not of as many bits." */
    private static void copyEachBits() {
        AnchorString x = new AnchorString();
        int[] bits = {8, 16, 64};
        for (int s : bits) {
            for (int t : bits) {
                x.sheet(0, s, 2);
                x.sheet(1, t, 2);
                x.write(0, 0, -1);
                Due.due("37 of " + s + " to " + t, x.copy(0, 0, 1, 1, 1), s == t ? 1 : Due.KIND);
                Due.due("37 what came", x.write(1, 1, 0), s == t ? -1 : 0);
            }
        }
    }

    /** "(those that aren't 0 to 99 .. are left out): how many came." */
    private static void laysOf0To99() {
        AnchorString x = new AnchorString();
        x.sheet(0, 16, 8);
        int[] v = {-1, 0, 99, 100, 98, -32768, 32767, 1};
        for (int i = 0; i < 8; i++) {
            x.odds(i, 50);
            x.write(0, i, v[i]);
        }
        Due.due("38 how many came", x.lays(0), 4);
        int[] want = {50, 0, 99, 50, 98, 50, 50, 1, 1, 1, 1, 1, 1};
        for (int w = 0; w < 13; w++) {
            Due.due("38 odds of " + w, x.odds(w, 0), want[w]);
        }
        Due.due("38 no finding", x.status(-1), 0);
    }

    /** "(.. or stand for none ..)": 13 WINDS, and sheets shorter and longer. */
    private static void laysStandForNone() {
        int[][] rows = {{0, 0}, {1, 1}, {12, 12}, {13, 13}, {14, 13}, {40, 13}};
        for (int[] row : rows) {
            AnchorString x = new AnchorString();
            x.sheet(2, 8, row[0]);
            for (int i = 0; i < row[0]; i++) {
                x.write(2, i, 9);
            }
            Due.due("38 lays of " + row[0], x.lays(2), row[1]);
            Due.due("38 count(3)", x.count(3), 9 * row[1] + 13 - row[1]);
            Due.due("38 the last wind", x.odds(12, 0), row[1] == 13 ? 9 : 1);
        }
    }

    private static void laysWrapped() {
        AnchorString x = new AnchorString();
        x.sheet(0, 8, 4);
        long[] v = {256 + 5, 255, 128, 100};
        for (int i = 0; i < 4; i++) {
            x.write(0, i, v[i]);
        }
        Due.due("38 of 8 bits", x.lays(0), 1);
        Due.due("38 5 of 261", x.odds(0, 1), 5);
        x.sheet(0, 64, 4);
        long[] w = {(1L << 32) + 5, Long.MIN_VALUE, Long.MAX_VALUE, -(1L << 32)};
        for (int i = 0; i < 4; i++) {
            x.write(0, i, w[i]);
        }
        Due.due("38 of 64 bits", x.lays(0), 0);
        Due.due("38 count(3)", x.count(3), 13);
    }

    /** "comes to a sheet, as far as it has numbers: how many" */
    private static void dawnAsFarAsItHas() {
        AnchorString x = new AnchorString();
        x.sheet(0, 16, 3);
        x.write(0, 0, 7);
        Due.due("39 no ships", x.dawn(0), 0);
        Due.same("39 row", Due.row(x, 0), "7 0 0 -1000000001");
        x = Due.ships(12, 0, 10);
        int[] sizes = {0, 1, 11, 12, 13, 40};
        for (int n : sizes) {
            x.sheet(0, 16, n);
            if (n > 12) {
                x.write(0, 12, 77);
            }
            Due.due("39 dawn of " + n, x.dawn(0), Math.min(n, 12));
            Due.due("39 the first", x.write(0, 0, 0), n == 0 ? Due.BEYOND : -1);
            Due.due("39 the twelfth", x.write(0, 11, 0), n < 12 ? Due.BEYOND : -1);
            Due.due("39 behind it", x.write(0, 12, 0), n < 13 ? Due.BEYOND : 77);
        }
    }

    private static void dawnEachBits() {
        AnchorString x = Due.told("ship; ship at 0; ship at 5; ship on 2; ship on 0");
        for (int bits : new int[] {8, 16, 64}) {
            x.sheet(3, bits, 5);
            Due.due("39 dawn(3)", x.dawn(3), 5);
            Due.same("39 row of " + bits, Due.row(x, 3), "-1 100 105 2 0 -1000000001");
            Due.due("40 read(3)", x.read(3), 0);
        }
    }

    /** "on what SHIPS 0, 1, .. (as far as there are both) would HANG" */
    private static void readAsFarAsThereAreBoth() {
        AnchorString x = new AnchorString();
        x.sheet(0, 8, 3);
        x.write(0, 0, 5);
        Due.due("40 no ships", x.read(0), 0);
        x.ship(0, 10);
        Due.due("40 one ship, another number", x.read(0), Due.NONE);
        x.write(0, 0, -1);
        Due.due("40 one ship, two numbers more", x.read(0), 0);
        x.ship(0, 10);
        Due.due("40 two ships", x.read(0), Due.NONE);
        x.sheet(1, 64, 0);
        Due.due("40 no numbers", x.read(1), 0);
        x.sheet(1, 64, 1);
        x.write(1, 0, -1);
        Due.due("40 one number, two ships", x.read(1), 0);
    }

    /** "the least such WIND (0 to 12)" */
    private static void readLeastWind() {
        AnchorString x = Due.told("ship at 0");
        x.sheet(0, 64, 1);
        x.write(0, 0, -1);
        int[][] rows = {{60, Due.NONE}, {59, 12}, {55, 12}, {54, 11}, {4, 1}, {0, 1}};
        for (int[] row : rows) {
            x.set(0, 2, row[0]);
            Due.due("40 parted, bears " + row[0], x.read(0), row[1]);
        }
        x.turn(0, 3);
        Due.due("40 parted in 0", x.read(0), 0);
        x.write(0, 0, 100);
        Due.due("40 not parted", x.read(0), Due.NONE);
        x.set(0, 2, 5);
        Due.due("40 not parted in 0", x.read(0), 0);
    }

    /** "NONE: by no WIND." */
    private static void readByNoWind() {
        AnchorString x = Due.told("ship bears 9 at 0; ship bears 14 at 1; ship");
        x.sheet(0, 16, 3);
        x.dawn(0);
        x.write(0, 0, -1);
        Due.due("40 the first alone", x.read(0), 2);
        x.write(0, 1, -1);
        Due.due("40 both", x.read(0), 3);
        x.write(0, 0, 100);
        Due.due("40 the second alone", x.read(0), Due.NONE);
        x.dawn(0);
        x.write(0, 2, 0);
        Due.due("40 one adrift never comes to hang", x.read(0), Due.NONE);
        x.write(0, 2, -1);
        Due.due("40 all as they lie", x.read(0), 0);
        x.write(0, 1, 65535);
        x.write(0, 0, 65535);
        Due.due("40 65535 of 16 bits is -1", x.read(0), 3);
    }

    private static void readOfAll() {
        AnchorString x = Due.ships(12, 0, 10);
        for (int s = 0; s < 12; s++) {
            x.hang(s, s == 11 ? 100 : s + 1);
            x.set(s, 2, 9999);
        }
        x.anchor(0, 600);
        x.set(0, 2, 4);
        x.sheet(0, 8, 40);
        x.dawn(0);
        Due.due("40 twelve", x.read(0), 0);
        x.write(0, 0, -1);
        Due.due("40 the last of the string", x.read(0), 1);
        x.write(0, 11, -1);
        Due.due("40 and the anchor, 605 of 600", x.read(0), 11);
        x.write(0, 11, 101);
        Due.due("40 another anchor", x.read(0), Due.NONE);
    }
}
