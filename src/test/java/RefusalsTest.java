/**
 * Each refused call of promises 2 to 45: the finding that is due, asked in the
 * document's order, and "one that answers a finding changes nothing but status()".
 */
public final class RefusalsTest {
    private static final int MIN = Integer.MIN_VALUE;
    private static final int MAX = Integer.MAX_VALUE;
    private static final int[] NO_ANCHOR = {-1, 6, 100, MIN, MAX};
    private static final int[] NO_WIND = {-1, 13, MIN, MAX};
    private static final int[] NO_KIND = {-1, 6, MIN, MAX};
    private static final int[] NO_SHEET = {-1, 4, MIN, MAX};
    /** With five ships. */
    private static final int[] NO_SHIP = {-1, 5, 11, 12, 100, MIN, MAX};

    private static final Refused NEW = new Refused(AnchorString::new);
    private static final Refused FEW = new Refused(RefusalsTest::few);
    private static final Refused FULL = new Refused(RefusalsTest::full);
    private static final Refused AT_9899 = new Refused(() -> late(9899));
    private static final Refused AT_9900 = new Refused(() -> late(9900));
    private static final Refused AT_9998 = new Refused(() -> late(9998));
    private static final Refused AT_9999 = new Refused(() -> late(9999));

    public static void main(String[] args) {
        anchors();
        ships();
        thirteenth();
        set();
        hang();
        turnAndAs();
        odds();
        hours();
        lastHours();
        forecasts();
        onShips();
        placeAndBest();
        cuts();
        chains();
        feed();
        sheet();
        write();
        copy();
        copyInOrder();
        laysDawnRead();
        images();
        noShipsAtAll();
        questions();
        Due.end();
    }

    /** Five ships: 0 at anchor 0, 1 on 0, 2 on 1, 3 adrift, 4 on 3; an image; a tape with a text; sheet 3 is missing. */
    private static AnchorString few() {
        AnchorString x = Due.told("ship size 9 bears 70 worn 3 at 0; burning on 0; smuggler on 1; tall; dragging on 3");
        x.anchor(3, 77);
        x.odds(4, 8);
        x.image();
        x.hours(3, 2);
        x.anchor(2, 66);
        x.odds(5, 3);
        x.set(3, 1, 33);
        addSheets(x);
        Due.feed(x, "odds 7 5;hang 3 at 5;ship on 3");
        return x;
    }

    /** As few(), but with twelve ships and 118 bytes on the tape. */
    private static AnchorString full() {
        AnchorString x = few();
        for (int s = 5; s < 12; s++) {
            x.ship(s % 6, s);
        }
        x.wipe();
        // 34 bytes and 21 times 4 blanks.
        Due.feed(x, "odds 7 5;hang 3 at 5;hang 11 on 3 ");
        for (int k = 0; k < 21; k++) {
            x.feed(0x20202020, 4);
        }
        return x;
    }

    private static void addSheets(AnchorString x) {
        x.sheet(0, 8, 3);
        x.write(0, 1, 77);
        x.sheet(1, 8, 2);
        x.write(1, 0, 5);
        x.sheet(2, 64, 4);
        x.write(2, 3, -1);
    }

    private static AnchorString late(int hour) {
        AnchorString x = Due.told("ship at 0; ship; ship bears 1 at 1");
        x.image();
        x.sheet(0, 8, 2);
        for (int h = 100; h <= hour; h += 100) {
            x.hours(100, 0);
        }
        if (hour % 100 > 0) {
            x.hours(hour % 100, 0);
        }
        Due.feed(x, "odds 7 5");
        return x;
    }

    private static void anchors() {
        for (int a : NO_ANCHOR) {
            FEW.beyond("2 anchor(" + a + ", 5)", x -> x.anchor(a, 5));
            FEW.beyond("2 anchor(" + a + ", -1)", x -> x.anchor(a, -1));
            FEW.beyond("3 anchorOf(" + a + ", 0)", x -> x.anchorOf(a, 0));
            FEW.beyond("3 anchorOf(" + a + ", 4)", x -> x.anchorOf(a, 4));
        }
        for (int v : new int[] {-1, 10000, MIN, MAX}) {
            FEW.beyond("2 anchor(0, " + v + ")", x -> x.anchor(0, v));
            FEW.beyond("2 anchor(5, " + v + ")", x -> x.anchor(5, v));
        }
        for (int what : new int[] {-1, 4, MIN, MAX}) {
            FEW.beyond("3 anchorOf(0, " + what + ")", x -> x.anchorOf(0, what));
        }
    }

    private static void ships() {
        for (int k : NO_KIND) {
            FEW.beyond("4 ship(" + k + ", 5)", x -> x.ship(k, 5));
            FEW.beyond("4 ship(" + k + ", 0)", x -> x.ship(k, 0));
        }
        for (int size : new int[] {-1, 0, 100, MIN, MAX}) {
            FEW.beyond("4 ship(0, " + size + ")", x -> x.ship(0, size));
            FEW.beyond("4 ship(5, " + size + ")", x -> x.ship(5, size));
        }
        for (int s : NO_SHIP) {
            FEW.beyond("5 of(" + s + ", 0)", x -> x.of(s, 0));
            FEW.beyond("5 of(" + s + ", 10)", x -> x.of(s, 10));
        }
        for (int what : new int[] {-1, 10, MIN, MAX}) {
            FEW.beyond("5 of(4, " + what + ")", x -> x.of(4, what));
        }
        FULL.beyond("5 of(12, 0), twelve", x -> x.of(12, 0));
    }

    private static void thirteenth() {
        FULL.due("4 ship(0, 1), full", Due.FULL, x -> x.ship(0, 1));
        FULL.due("4 ship(5, 99), full", Due.FULL, x -> x.ship(5, 99));
        FULL.beyond("4 ship(6, 5), kind ahead of FULL", x -> x.ship(6, 5));
        FULL.beyond("4 ship(-1, 5), kind ahead of FULL", x -> x.ship(-1, 5));
        FULL.beyond("4 ship(0, 0), size ahead of FULL", x -> x.ship(0, 0));
        FULL.beyond("4 ship(0, 100), size ahead of FULL", x -> x.ship(0, 100));
    }

    private static void set() {
        for (int s : NO_SHIP) {
            FEW.beyond("6 set(" + s + ", 1, 5)", x -> x.set(s, 1, 5));
        }
        for (int what : new int[] {-1, 0, 4, 5, MIN, MAX}) {
            FEW.beyond("6 set(0, " + what + ", 5)", x -> x.set(0, what, 5));
        }
        for (int v : new int[] {-1, 0, 100, MIN, MAX}) {
            FEW.beyond("6 set(0, 1, " + v + ")", x -> x.set(0, 1, v));
        }
        for (int v : new int[] {-1, 10000, MIN, MAX}) {
            FEW.beyond("6 set(0, 2, " + v + ")", x -> x.set(0, 2, v));
        }
        for (int v : new int[] {-1, 100, MIN, MAX}) {
            FEW.beyond("6 set(0, 3, " + v + ")", x -> x.set(0, 3, v));
        }
        FULL.beyond("6 set(12, 2, 5), twelve", x -> x.set(12, 2, 5));
    }

    private static void hang() {
        for (int s : NO_SHIP) {
            FEW.beyond("7 hang(" + s + ", 100), no such ship", x -> x.hang(s, 100));
            FEW.beyond("7 hang(" + s + ", -1), no such ship", x -> x.hang(s, -1));
            FEW.beyond("7 hang(" + s + ", " + s + "), no such ship", x -> x.hang(s, s));
        }
        for (int on : new int[] {-2, 5, 11, 12, 99, 106, MIN, MAX}) {
            FEW.beyond("7 hang(0, " + on + "), no such thing", x -> x.hang(0, on));
        }
        for (int s = 0; s < 5; s++) {
            int itself = s;
            FEW.beyond("7 hang(" + s + ", " + s + "), itself", x -> x.hang(itself, itself));
        }
        FEW.due("7 hang(0, 1), which hangs on it", Due.STATE, x -> x.hang(0, 1));
        FEW.due("7 hang(0, 2), which hangs on it by two", Due.STATE, x -> x.hang(0, 2));
        FEW.due("7 hang(3, 4), adrift itself", Due.STATE, x -> x.hang(3, 4));
        FULL.beyond("7 hang(12, 100), twelve", x -> x.hang(12, 100));
        FULL.beyond("7 hang(0, 12), twelve", x -> x.hang(0, 12));
    }

    private static void turnAndAs() {
        for (int s : NO_SHIP) {
            FEW.beyond("8 turn(" + s + ", 0)", x -> x.turn(s, 0));
            FEW.beyond("9 as(" + s + ", 0)", x -> x.as(s, 0));
            FEW.beyond("9 as(" + s + ", 6)", x -> x.as(s, 6));
        }
        for (int k : NO_KIND) {
            FEW.beyond("8 turn(0, " + k + ")", x -> x.turn(0, k));
            FEW.beyond("9 as(0, " + k + "), ahead of KIND", x -> x.as(0, k));
        }
        int[][] kinds = {{0, 1}, {0, 5}, {1, 2}, {1, 5}, {2, 1}, {2, 4}, {3, 4}, {3, 2}, {4, 1}, {4, 5}};
        for (int[] k : kinds) {
            FEW.due("9 as(" + k[0] + ", " + k[1] + ")", Due.KIND, x -> x.as(k[0], k[1]));
        }
        FULL.beyond("8 turn(12, 0), twelve", x -> x.turn(12, 0));
        FULL.beyond("9 as(12, 0), twelve", x -> x.as(12, 0));
    }

    private static void odds() {
        for (int w : NO_WIND) {
            FEW.beyond("10 odds(" + w + ", 5)", x -> x.odds(w, 5));
            FEW.beyond("10 odds(" + w + ", -1)", x -> x.odds(w, -1));
        }
        for (int v : new int[] {-1, 100, MIN, MAX}) {
            FEW.beyond("10 odds(0, " + v + ")", x -> x.odds(0, v));
            FEW.beyond("10 odds(12, " + v + ")", x -> x.odds(12, v));
        }
    }

    private static void hours() {
        for (int w : NO_WIND) {
            FEW.beyond("11 hour(" + w + ")", x -> x.hour(w));
            FEW.beyond("12 hours(1, " + w + ")", x -> x.hours(1, w));
            FEW.beyond("12 hours(0, " + w + ")", x -> x.hours(0, w));
        }
        for (int n : new int[] {-1, 0, 101, MIN, MAX}) {
            FEW.beyond("12 hours(" + n + ", 3)", x -> x.hours(n, 3));
        }
        for (int what : new int[] {-1, 5, MIN, MAX}) {
            FEW.beyond("15 now(" + what + ")", x -> x.now(what));
        }
    }

    private static void lastHours() {
        AT_9999.due("11 hour(0) in hour 9999", Due.STATE, x -> x.hour(0));
        AT_9999.due("11 hour(12) in hour 9999", Due.STATE, x -> x.hour(12));
        AT_9999.due("12 hours(1, 12) in hour 9999", Due.STATE, x -> x.hours(1, 12));
        AT_9999.due("12 hours(100, 12) in hour 9999", Due.STATE, x -> x.hours(100, 12));
        AT_9998.due("12 hours(2, 12) in hour 9998", Due.STATE, x -> x.hours(2, 12));
        AT_9900.due("12 hours(100, 12) in hour 9900", Due.STATE, x -> x.hours(100, 12));
        for (int w : NO_WIND) {
            AT_9999.beyond("11 hour(" + w + "), wind ahead of STATE", x -> x.hour(w));
            AT_9999.beyond("12 hours(1, " + w + "), wind ahead of STATE", x -> x.hours(1, w));
        }
        for (int n : new int[] {-1, 0, 101, MIN, MAX}) {
            AT_9999.beyond("12 hours(" + n + ", 0), n ahead of STATE", x -> x.hours(n, 0));
        }
    }

    private static void forecasts() {
        for (int w : NO_WIND) {
            FEW.beyond("16 would(" + w + ")", x -> x.would(w));
            FEW.beyond("18 when(" + w + ")", x -> x.when(w));
            FEW.beyond("19 who(" + w + ")", x -> x.who(w));
            AT_9900.beyond("18 when(" + w + "), wind ahead of STATE", x -> x.when(w));
            AT_9900.beyond("19 who(" + w + "), wind ahead of STATE", x -> x.who(w));
        }
        AT_9899.due("18 when(0) in hour 9899", Due.NONE, x -> x.when(0));
        AT_9899.due("19 who(0) in hour 9899", Due.NONE, x -> x.who(0));
        AT_9899.asked("18 when(12) in hour 9899", 1, x -> x.when(12));
        AT_9899.asked("19 who(12) in hour 9899", 0, x -> x.who(12));
        AT_9900.due("18 when(12) in hour 9900", Due.STATE, x -> x.when(12));
        AT_9900.due("19 who(12) in hour 9900", Due.STATE, x -> x.who(12));
        AT_9900.due("18 when(0), STATE ahead of NONE", Due.STATE, x -> x.when(0));
        AT_9900.due("19 who(0), STATE ahead of NONE", Due.STATE, x -> x.who(0));
        AT_9999.due("18 when(12) in hour 9999", Due.STATE, x -> x.when(12));
        AT_9999.due("19 who(12) in hour 9999", Due.STATE, x -> x.who(12));
    }

    private static void onShips() {
        for (int s : NO_SHIP) {
            FEW.beyond("22 ahead(" + s + ")", x -> x.ahead(s));
            FEW.beyond("23 place(" + s + ", 0)", x -> x.place(s, 0));
            FEW.beyond("24 best(" + s + ")", x -> x.best(s));
            FEW.beyond("25 cut(" + s + ")", x -> x.cut(s));
            FEW.beyond("26 canCut(" + s + ", 0)", x -> x.canCut(s, 0));
            FEW.beyond("28 bears(" + s + ", 0)", x -> x.bears(s, 0));
            FEW.beyond("30 kind(" + s + ")", x -> x.kind(s));
        }
        FULL.beyond("22 ahead(12), twelve", x -> x.ahead(12));
        FULL.beyond("23 place(12, 0), twelve", x -> x.place(12, 0));
        FULL.beyond("24 best(12), twelve", x -> x.best(12));
        FULL.beyond("25 cut(12), twelve", x -> x.cut(12));
        FULL.beyond("26 canCut(12, 0), twelve", x -> x.canCut(12, 0));
        FULL.beyond("28 bears(12, 0), twelve", x -> x.bears(12, 0));
        FULL.beyond("30 kind(12), twelve", x -> x.kind(12));
    }

    private static void placeAndBest() {
        for (int w : NO_WIND) {
            FEW.beyond("23 place(0, " + w + ")", x -> x.place(0, w));
        }
        FEW.due("23 place(3, 12), nowhere", Due.NONE, x -> x.place(3, 12));
        Refused weak = new Refused(() -> {
            AnchorString x = Due.told("dragging at 2; ship; anchor 2 4");
            x.image();
            return x;
        });
        weak.due("17 holds(), not in wind 0", Due.NONE, x -> x.holds());
        weak.due("23 place(1, 0), another doesn't hold", Due.NONE, x -> x.place(1, 0));
        weak.due("24 best(1), in none", Due.NONE, x -> x.best(1));
        weak.beyond("23 place(1, 13), wind ahead of NONE", x -> x.place(1, 13));
        weak.beyond("23 place(2, 0), ship ahead of NONE", x -> x.place(2, 0));
        weak.beyond("24 best(2), ship ahead of NONE", x -> x.best(2));
    }

    private static void cuts() {
        FEW.due("25 cut(3), adrift", Due.STATE, x -> x.cut(3));
        FEW.due("26 canCut(3, 0), adrift", Due.STATE, x -> x.canCut(3, 0));
        FEW.due("26 canCut(3, 12), adrift", Due.STATE, x -> x.canCut(3, 12));
        for (int w : NO_WIND) {
            FEW.beyond("26 canCut(0, " + w + ")", x -> x.canCut(0, w));
            FEW.beyond("26 canCut(3, " + w + "), wind ahead of STATE", x -> x.canCut(3, w));
        }
    }

    private static void chains() {
        FEW.due("28 bears(3, 0), adrift", Due.STATE, x -> x.bears(3, 0));
        FEW.due("28 bears(3, 12), adrift", Due.STATE, x -> x.bears(3, 12));
        for (int w : NO_WIND) {
            FEW.beyond("28 bears(0, " + w + ")", x -> x.bears(0, w));
            FEW.beyond("28 bears(3, " + w + "), wind ahead of STATE", x -> x.bears(3, w));
            FEW.beyond("29 weakest(" + w + ")", x -> x.weakest(w));
            NEW.beyond("29 weakest(" + w + "), wind ahead of NONE", x -> x.weakest(w));
        }
        Refused weak = new Refused(() -> Due.told("dragging at 2; anchor 2 4"));
        weak.due("28 bears(0, 0), by no chain", Due.NONE, x -> x.bears(0, 0));
        weak.beyond("28 bears(0, 13), wind ahead of NONE", x -> x.bears(0, 13));
        weak.beyond("28 bears(1, 0), ship ahead of NONE", x -> x.bears(1, 0));
        Refused adrift = new Refused(() -> Due.told("ship; ship on 0; hang 1 at 0; dragging"));
        adrift.due("28 bears(2, 0), STATE ahead of NONE", Due.STATE, x -> x.bears(2, 0));
    }

    private static void feed() {
        for (int n : new int[] {-1, 0, 5, 8, MIN, MAX}) {
            FEW.beyond("32 feed(65, " + n + ")", x -> x.feed(65, n));
            FULL.beyond("32 feed(65, " + n + "), n ahead of FULL", x -> x.feed(65, n));
        }
        FULL.due("32 feed(65, 3), to 121", Due.FULL, x -> x.feed(65, 3));
        FULL.due("32 feed(65, 4), to 122", Due.FULL, x -> x.feed(65, 4));
        Refused fuller = new Refused(() -> {
            AnchorString x = full();
            x.feed(0x2020, 2);
            return x;
        });
        fuller.due("32 feed(32, 1), to 121", Due.FULL, x -> x.feed(32, 1));
        fuller.beyond("32 feed(32, 0), n ahead of FULL", x -> x.feed(32, 0));
    }

    private static void sheet() {
        for (int s : NO_SHEET) {
            FEW.beyond("35 sheet(" + s + ", 8, 1)", x -> x.sheet(s, 8, 1));
            FEW.beyond("35 sheet(" + s + ", 0, 0)", x -> x.sheet(s, 0, 0));
            FEW.beyond("35 sheet(" + s + ", 8, -1), sheet ahead of SIZE", x -> x.sheet(s, 8, -1));
        }
        for (int bits : new int[] {-8, -1, 1, 7, 9, 15, 17, 32, 63, 65, 128, MIN, MAX}) {
            FEW.beyond("35 sheet(0, " + bits + ", 1)", x -> x.sheet(0, bits, 1));
            FEW.beyond("35 sheet(0, " + bits + ", -1), bits ahead of SIZE", x -> x.sheet(0, bits, -1));
        }
        for (int bits : new int[] {0, 8, 16, 64}) {
            FEW.due("35 sheet(0, " + bits + ", -1)", Due.SIZE, x -> x.sheet(0, bits, -1));
            FEW.due("35 sheet(3, " + bits + ", MIN)", Due.SIZE, x -> x.sheet(3, bits, MIN));
            FEW.beyond("35 sheet(0, " + bits + ", 41)", x -> x.sheet(0, bits, 41));
            FEW.beyond("35 sheet(3, " + bits + ", MAX)", x -> x.sheet(3, bits, MAX));
        }
    }

    private static void write() {
        for (int s : NO_SHEET) {
            FEW.beyond("36 write(" + s + ", 0, 5)", x -> x.write(s, 0, 5));
            FEW.beyond("36 write(" + s + ", -1, 5)", x -> x.write(s, -1, 5));
        }
        FEW.due("36 write(3, 0, 5)", Due.MISSING, x -> x.write(3, 0, 5));
        FEW.due("36 write(3, -1, 5), MISSING ahead of the number", Due.MISSING, x -> x.write(3, -1, 5));
        FEW.due("36 write(3, 40, 5), MISSING ahead of the number", Due.MISSING, x -> x.write(3, 40, 5));
        for (int i : new int[] {-1, 3, 39, 40, MIN, MAX}) {
            FEW.beyond("36 write(0, " + i + ", 5)", x -> x.write(0, i, 5));
        }
        FEW.beyond("36 write(1, 2, 5)", x -> x.write(1, 2, 5));
        FEW.beyond("36 write(2, 4, 5)", x -> x.write(2, 4, 5));
    }

    private static void copy() {
        int[][] beyond = {{0, 0, 1, 0, 3}, {1, 0, 0, 0, 3}, {0, 2, 1, 0, 2}, {0, 0, 1, 1, 2}, {0, 4, 1, 0, 0}, {0, 0, 1, 3, 0},
            {0, -1, 1, 0, 1}, {0, 0, 1, -1, 1}, {0, 0, 1, 0, -1}, {0, -1, 1, 0, 0}, {0, 0, 1, -1, 0}, {0, MIN, 1, 0, 1},
            {0, 0, 1, MIN, 1}, {0, 0, 1, 0, MIN}, {0, MAX, 1, 0, 1}, {0, 0, 1, MAX, 1}, {0, 0, 1, 0, MAX}, {0, 1, 1, 1, MAX},
            {0, MAX, 1, MAX, MAX}, {0, MIN, 1, MIN, MIN}, {0, MIN, 1, MIN, MAX}, {0, MAX, 0, 0, 3}, {0, 0, 0, 1, 3}};
        for (int[] a : beyond) {
            FEW.beyond("37 copy" + java.util.Arrays.toString(a), x -> x.copy(a[0], a[1], a[2], a[3], a[4]));
        }
        for (int s : NO_SHEET) {
            FEW.beyond("37 copy(" + s + ", 0, 0, 0, 1)", x -> x.copy(s, 0, 0, 0, 1));
            FEW.beyond("37 copy(0, 0, " + s + ", 0, 1)", x -> x.copy(0, 0, s, 0, 1));
        }
    }

    private static void copyInOrder() {
        for (int s : NO_SHEET) {
            FEW.beyond("37 copy(" + s + ", 0, 3, 0, 1), ahead of MISSING", x -> x.copy(s, 0, 3, 0, 1));
            FEW.beyond("37 copy(3, 0, " + s + ", 0, 1), ahead of MISSING", x -> x.copy(3, 0, s, 0, 1));
        }
        int[][] missing = {{0, 0, 3, 0, 1}, {3, 0, 0, 0, 1}, {3, 0, 3, 0, 0}, {2, 0, 3, 0, -1}, {3, -1, 2, 0, 1}, {0, 4, 3, 0, 1}};
        for (int[] a : missing) {
            FEW.due("37 copy" + java.util.Arrays.toString(a), Due.MISSING, x -> x.copy(a[0], a[1], a[2], a[3], a[4]));
        }
        int[][] kind = {{0, 0, 2, 0, 1}, {2, 0, 0, 0, 1}, {0, 0, 2, 0, 0}, {0, -1, 2, 0, 1}, {0, 0, 2, -1, 1}, {0, 0, 2, 0, -1},
            {0, 0, 2, 0, MAX}, {2, 5, 1, 0, 1}};
        for (int[] a : kind) {
            FEW.due("37 copy" + java.util.Arrays.toString(a), Due.KIND, x -> x.copy(a[0], a[1], a[2], a[3], a[4]));
        }
    }

    private static void laysDawnRead() {
        for (int s : NO_SHEET) {
            FEW.beyond("38 lays(" + s + ")", x -> x.lays(s));
            FEW.beyond("39 dawn(" + s + ")", x -> x.dawn(s));
            FEW.beyond("40 read(" + s + ")", x -> x.read(s));
        }
        FEW.due("38 lays(3)", Due.MISSING, x -> x.lays(3));
        FEW.due("39 dawn(3)", Due.MISSING, x -> x.dawn(3));
        FEW.due("40 read(3)", Due.MISSING, x -> x.read(3));
        FEW.due("40 read(0), by no wind", Due.NONE, x -> x.read(0));
        NEW.due("38 lays(0)", Due.MISSING, x -> x.lays(0));
        NEW.due("39 dawn(0)", Due.MISSING, x -> x.dawn(0));
        NEW.due("40 read(0)", Due.MISSING, x -> x.read(0));
    }

    private static void images() {
        NEW.due("42 undo(), nothing is kept", Due.NONE, x -> x.undo());
        Refused torn = new Refused(() -> {
            AnchorString x = few();
            x.tear();
            return x;
        });
        torn.due("42 undo(), torn", Due.NONE, x -> x.undo());
        for (int what : new int[] {-1, 4, MIN, MAX}) {
            FEW.beyond("44 count(" + what + ")", x -> x.count(what));
        }
        for (int which : new int[] {-2, 7, MIN, MAX, Due.BEYOND}) {
            FEW.beyond("45 status(" + which + ")", x -> x.status(which));
        }
    }

    private static void noShipsAtAll() {
        NEW.beyond("5 of(0, 0)", x -> x.of(0, 0));
        NEW.beyond("6 set(0, 1, 5)", x -> x.set(0, 1, 5));
        NEW.beyond("7 hang(0, 100)", x -> x.hang(0, 100));
        NEW.beyond("7 hang(0, 0)", x -> x.hang(0, 0));
        NEW.beyond("8 turn(0, 0)", x -> x.turn(0, 0));
        NEW.beyond("9 as(0, 0)", x -> x.as(0, 0));
        NEW.due("18 when(12)", Due.NONE, x -> x.when(12));
        NEW.due("19 who(12)", Due.NONE, x -> x.who(12));
        NEW.beyond("22 ahead(0)", x -> x.ahead(0));
        NEW.beyond("23 place(0, 0)", x -> x.place(0, 0));
        NEW.beyond("24 best(0)", x -> x.best(0));
        NEW.beyond("25 cut(0)", x -> x.cut(0));
        NEW.beyond("26 canCut(0, 0)", x -> x.canCut(0, 0));
        NEW.due("27 matters()", Due.NONE, x -> x.matters());
        NEW.beyond("28 bears(0, 0)", x -> x.bears(0, 0));
        NEW.due("29 weakest(0)", Due.NONE, x -> x.weakest(0));
        NEW.beyond("30 kind(0)", x -> x.kind(0));
    }

    /** What only asks changes nothing at all, whatever it tries on the way. */
    private static void questions() {
        FEW.asked("3 anchorOf(0, 3)", 7, x -> x.anchorOf(0, 3));
        FEW.asked("5 of(4, 9)", 16, x -> x.of(4, 9));
        FEW.asked("9 as(1, 1)", 10, x -> x.as(1, 1));
        FEW.asked("13 adrift()", 8, x -> x.adrift());
        FEW.asked("14 lost()", 24, x -> x.lost());
        FEW.asked("15 now(0)", 3, x -> x.now(0));
        FEW.asked("16 would(12)", 31, x -> x.would(12));
        FEW.asked("17 holds()", 3, x -> x.holds());
        FEW.asked("18 when(12)", 1, x -> x.when(12));
        FEW.asked("19 who(12)", 0, x -> x.who(12));
        FEW.asked("20 sure()", 4, x -> x.sure());
        FEW.asked("21 free()", 20, x -> x.free());
        FEW.asked("22 ahead(0)", 2, x -> x.ahead(0));
        FEW.asked("23 place(3, 0)", 100, x -> x.place(3, 0));
        FEW.asked("24 best(2)", 100, x -> x.best(2));
        FEW.asked("26 canCut(1, 0)", 1, x -> x.canCut(1, 0));
        FEW.asked("27 matters()", 0, x -> x.matters());
        FEW.asked("28 bears(2, 12)", 60, x -> x.bears(2, 12));
        FEW.asked("29 weakest(12)", 0, x -> x.weakest(12));
        FEW.asked("30 kind(1)", 2, x -> x.kind(1));
        FEW.asked("31 stronger()", 0, x -> x.stronger());
        FEW.asked("44 count(0)", 5, x -> x.count(0));
        FEW.asked("45 status(-1)", 0, x -> x.status(-1));
    }
}
