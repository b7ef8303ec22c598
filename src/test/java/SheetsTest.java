/** Promises 35 to 40. */
public final class SheetsTest {
    public static void main(String[] args) {
        sheet();
        write();
        copy();
        lays();
        dawn();
        read();
        readLinks();
        Due.end();
    }

    private static void sheet() {
        AnchorString x = new AnchorString();
        Due.due("35 sheet(-1, 8, 1)", x.sheet(-1, 8, 1), Due.BEYOND);
        Due.due("35 sheet(4, 8, 1)", x.sheet(4, 8, 1), Due.BEYOND);
        Due.due("35 sheet(4, 8, -1)", x.sheet(4, 8, -1), Due.BEYOND);
        Due.due("35 sheet(0, 7, -1)", x.sheet(0, 7, -1), Due.BEYOND);
        Due.due("35 sheet(0, 32, 1)", x.sheet(0, 32, 1), Due.BEYOND);
        Due.due("35 sheet(0, -8, 1)", x.sheet(0, -8, 1), Due.BEYOND);
        Due.due("35 sheet(0, 8, -1)", x.sheet(0, 8, -1), Due.SIZE);
        Due.due("35 sheet(0, 0, -1)", x.sheet(0, 0, -1), Due.SIZE);
        Due.due("35 sheet(0, 16, MIN)", x.sheet(0, 16, Integer.MIN_VALUE), Due.SIZE);
        Due.due("35 sheet(0, 8, 41)", x.sheet(0, 8, 41), Due.BEYOND);
        Due.due("35 sheet(0, 0, 41)", x.sheet(0, 0, 41), Due.BEYOND);
        Due.due("35 still missing", x.write(0, 0, 0), Due.MISSING);
        Due.due("35 sheet(0, 8, 40)", x.sheet(0, 8, 40), 40);
        Due.due("35 sheet(1, 16, 3)", x.sheet(1, 16, 3), 3);
        Due.due("35 sheet(2, 64, 0)", x.sheet(2, 64, 0), 0);
        Due.due("35 sheet(3, 0, 5)", x.sheet(3, 0, 5), 0);
        Due.due("35 write(0, 39, 5)", x.write(0, 39, 5), 0);
        Due.due("35 sheet(0, 8, 50)", x.sheet(0, 8, 50), Due.BEYOND);
        Due.due("35 write(0, 39, 6)", x.write(0, 39, 6), 5);
        Due.due("35 sheet(0, 8, 40)", x.sheet(0, 8, 40), 40);
        Due.due("35 all 0", x.write(0, 39, 0), 0);
        Due.due("35 sheet(0, 0, 40)", x.sheet(0, 0, 40), 0);
        Due.due("35 missing", x.write(0, 39, 0), Due.MISSING);
        Due.due("45 status(6)", x.status(6), 3);
    }

    private static void write() {
        AnchorString x = new AnchorString();
        x.sheet(0, 8, 3);
        x.sheet(1, 16, 3);
        x.sheet(2, 64, 3);
        long[] v = {127, 128, 255, 256, -1, 32767, 32768, 65535, 65536, Long.MAX_VALUE, Long.MIN_VALUE, 0x123456789abcdefL};
        for (long a : v) {
            x.write(0, 2, a);
            Due.due("36 write 8 bits " + a, x.write(0, 2, 0), (byte) a);
            x.write(1, 2, a);
            Due.due("36 write 16 bits " + a, x.write(1, 2, 0), (short) a);
            x.write(2, 2, a);
            Due.due("36 write 64 bits " + a, x.write(2, 2, 0), a);
        }
        Due.due("36 others stay", x.write(0, 1, 4), 0);
        Due.due("36 others stay", x.write(0, 0, 5), 0);
        Due.due("36 write(0, 1, 9)", x.write(0, 1, 9), 4);
        Due.due("36 write(-1, 0, 0)", x.write(-1, 0, 0), Due.BEYOND);
        Due.due("36 write(4, 0, 0)", x.write(4, 0, 0), Due.BEYOND);
        Due.due("36 write(3, 0, 0)", x.write(3, 0, 0), Due.MISSING);
        Due.due("36 write(3, -1, 0)", x.write(3, -1, 0), Due.MISSING);
        Due.due("36 write(0, 3, 0)", x.write(0, 3, 0), Due.BEYOND);
        Due.due("36 write(0, -1, 0)", x.write(0, -1, 0), Due.BEYOND);
        Due.due("45 status(0)", x.status(0), 4);
        Due.due("45 status(5)", x.status(5), 2);
        x.write(2, 0, Due.BEYOND);
        Due.due("36 a number like a finding", x.write(2, 0, 1), Due.BEYOND);
        Due.due("45 is none", x.status(0), 4);
    }

    private static String rowOf(AnchorString x, int s, int n) {
        StringBuilder b = new StringBuilder();
        for (int i = 0; i < n; i++) {
            long v = x.write(s, i, 0);
            x.write(s, i, v);
            b.append(i == 0 ? "" : " ").append(v);
        }
        return b.toString();
    }

    private static AnchorString threeSheets() {
        AnchorString x = new AnchorString();
        x.sheet(0, 16, 5);
        x.sheet(1, 16, 3);
        x.sheet(2, 64, 5);
        for (int i = 0; i < 5; i++) {
            x.write(0, i, i + 1);
        }
        return x;
    }

    private static void copy() {
        AnchorString x = threeSheets();
        Due.due("37 copy(0, 3, 1, 0, 2)", x.copy(0, 3, 1, 0, 2), 2);
        Due.same("37 row", rowOf(x, 1, 3), "4 5 0");
        Due.due("37 copy(0, 0, 0, 1, 4), forth over itself", x.copy(0, 0, 0, 1, 4), 4);
        Due.same("37 row", rowOf(x, 0, 5), "1 1 2 3 4");
        Due.due("37 copy(0, 1, 0, 0, 4), back over itself", x.copy(0, 1, 0, 0, 4), 4);
        Due.same("37 row", rowOf(x, 0, 5), "1 2 3 4 4");
        Due.due("37 copy(0, 5, 1, 3, 0)", x.copy(0, 5, 1, 3, 0), 0);
        Due.due("37 copy(0, 0, 1, 0, 3)", x.copy(0, 0, 1, 0, 3), 3);
        Due.same("37 row", rowOf(x, 1, 3), "1 2 3");
        int max = Integer.MAX_VALUE;
        int[][] beyond = {{0, 0, 4, 0, 1}, {-1, 0, 0, 0, 1}, {4, 0, 3, 0, 1}, {3, 0, -1, 0, 1},
            {0, 0, 1, 0, 4}, {0, 3, 1, 0, 3}, {0, 0, 1, 1, 3}, {0, -1, 1, 0, 1}, {0, 0, 1, -1, 1}, {0, 0, 1, 0, -1},
            {0, 6, 1, 0, 0}, {0, 0, 1, 4, 0}, {0, max, 1, 0, max}, {0, 1, 1, 1, max}, {0, max, 1, max, 1},
            {0, Integer.MIN_VALUE, 1, 0, Integer.MIN_VALUE}};
        for (int[] b : beyond) {
            Due.due("37 copy, beyond", x.copy(b[0], b[1], b[2], b[3], b[4]), Due.BEYOND);
        }
        Due.due("37 copy(0, 0, 3, 0, 1)", x.copy(0, 0, 3, 0, 1), Due.MISSING);
        Due.due("37 copy(3, 0, 2, 0, -1)", x.copy(3, 0, 2, 0, -1), Due.MISSING);
        Due.due("37 copy(0, 0, 2, 0, 1)", x.copy(0, 0, 2, 0, 1), Due.KIND);
        Due.due("37 copy(2, -1, 1, 0, 1)", x.copy(2, -1, 1, 0, 1), Due.KIND);
        Due.same("37 nothing changed", rowOf(x, 0, 5), "1 2 3 4 4");
        Due.same("37 nothing changed", rowOf(x, 1, 3), "1 2 3");
        Due.same("37 nothing changed", rowOf(x, 2, 5), "0 0 0 0 0");
    }

    private static void lays() {
        AnchorString x = new AnchorString();
        Due.due("38 lays(0)", x.lays(0), Due.MISSING);
        Due.due("38 lays(-1)", x.lays(-1), Due.BEYOND);
        Due.due("38 lays(4)", x.lays(4), Due.BEYOND);
        x.sheet(0, 64, 5);
        long[] v = {99, 100, -1, 0, (1L << 32) + 5};
        for (int i = 0; i < 5; i++) {
            x.write(0, i, v[i]);
        }
        Due.due("38 lays(0)", x.lays(0), 2);
        int[] want = {99, 1, 1, 0, 1, 1};
        for (int w = 0; w < 6; w++) {
            Due.due("38 odds(" + w + ", 1)", x.odds(w, 1), want[w]);
        }
        x.sheet(1, 8, 40);
        for (int i = 0; i < 40; i++) {
            x.write(1, i, 2);
        }
        Due.due("38 lays(1), more than winds", x.lays(1), 13);
        Due.due("38 count(3)", x.count(3), 26);
        x.sheet(2, 16, 0);
        Due.due("38 lays(2), of none", x.lays(2), 0);
    }

    private static void dawn() {
        AnchorString x = Due.told("ship at 5; ship on 0; ship; ship on 1");
        Due.due("39 dawn(0)", x.dawn(0), Due.MISSING);
        Due.due("39 dawn(-1)", x.dawn(-1), Due.BEYOND);
        Due.due("39 dawn(4)", x.dawn(4), Due.BEYOND);
        x.sheet(0, 8, 6);
        x.write(0, 4, 7);
        Due.due("39 dawn(0)", x.dawn(0), 4);
        Due.same("39 row", rowOf(x, 0, 6), "105 0 -1 1 7 0");
        x.sheet(0, 64, 3);
        Due.due("39 dawn(0)", x.dawn(0), 3);
        Due.same("39 row", rowOf(x, 0, 3), "105 0 -1");
        x.sheet(1, 16, 0);
        Due.due("39 dawn(1)", x.dawn(1), 0);
        Due.due("39 no ships", dawnOfNone(), 0);
    }

    private static int dawnOfNone() {
        AnchorString x = new AnchorString();
        x.sheet(1, 16, 5);
        return x.dawn(1);
    }

    private static void read() {
        AnchorString x = Due.told("ship bears 20 at 0; ship bears 10 on 0; ship bears 35 at 1; ship");
        Due.due("40 read(0)", x.read(0), Due.MISSING);
        Due.due("40 read(-1)", x.read(-1), Due.BEYOND);
        Due.due("40 read(4)", x.read(4), Due.BEYOND);
        x.sheet(0, 16, 6);
        x.dawn(0);
        x.write(0, 5, 77);
        Due.due("40 read(0), as it is", x.read(0), 0);
        x.write(0, 0, -1);
        x.write(0, 1, -1);
        Due.due("40 read(0), both part", x.read(0), 3);
        x.write(0, 2, -1);
        Due.due("40 read(0), all part", x.read(0), 8);
        x.write(0, 2, 102);
        Due.due("40 read(0), by no wind", x.read(0), Due.NONE);
        x.write(0, 2, -1);
        x.write(0, 3, 0);
        Due.due("40 read(0), by no wind", x.read(0), Due.NONE);
        x.sheet(1, 8, 2);
        x.write(1, 0, -1);
        x.write(1, 1, -1);
        Due.due("40 read(1), as far as there are both", x.read(1), 3);
        x.sheet(2, 64, 0);
        Due.due("40 read(2), of none", x.read(2), 0);
        Due.due("40 nothing changed", x.adrift(), 8);
        Due.due("40 nothing changed", x.now(1), 0);
        Due.due("45 status(3)", x.status(3), 2);
    }

    private static void readLinks() {
        AnchorString x = Due.told("ship bears 5; ship bears 24 at 0; hang 0 on 1; anchor 0 19");
        x.sheet(0, 64, 2);
        x.write(0, 0, -1);
        x.write(0, 1, 100);
        Due.due("40 read(0), the link behind", x.read(0), 2);
        x.write(0, 0, 1);
        x.write(0, 1, -1);
        Due.due("40 read(0), the link ahead", x.read(0), Due.NONE);
        x.write(0, 0, -1);
        Due.due("40 read(0), and the anchor", x.read(0), 4);
        x.write(0, 1, (1L << 32) - 1);
        Due.due("40 read(0), a number of 64 bits", x.read(0), Due.NONE);
        AnchorString y = Due.told("ship bears 60 at 0");
        y.sheet(0, 8, 1);
        y.write(0, 0, -1);
        Due.due("40 read(0), it would part in wind 13", y.read(0), Due.NONE);
        x.sheet(1, 8, 2);
        x.write(1, 0, 255);
        x.write(1, 1, 255);
        Due.due("40 read(1), 255 of 8 bits is -1", x.read(1), 4);
    }
}
