import java.util.Arrays;

/**
 * Anchors in common: ships that hang on anchors and on one another in strings,
 * and what becomes of them in hours of wind.
 */
public final class AnchorString {
    private static final int BEYOND = -1000000001;
    private static final int FULL = -1000000002;
    private static final int KIND = -1000000003;
    private static final int NONE = -1000000004;
    private static final int STATE = -1000000005;
    private static final int MISSING = -1000000006;
    private static final int SIZE = -1000000007;
    private static final int FINDINGS = 7;

    private static final int ANCHORS = 6;
    private static final int FIRST_ANCHOR = 100;
    private static final int ADRIFT = -1;
    private static final int MOST_SHIPS = 12;
    private static final int WINDS = 13;
    private static final int MOST_HOLD = 9999;
    private static final int MOST_BEARS = 9999;
    private static final int MOST_WORN = 99;
    private static final int MOST_SIZE = 99;
    private static final int MOST_ODDS = 99;
    private static final int LAST_HOUR = 9999;
    private static final int MOST_HOURS = 100;
    private static final int FIRST_SIZE = 10;
    private static final int FIRST_BEARS = 50;

    private static final int KINDS = 6;
    private static final int TALL = 1;
    private static final int TOWED = 2;
    private static final int DRAGGING = 3;
    private static final int BURNING = 4;
    private static final int SMUGGLER = 5;
    private static final int[] KIND_ABOVE = {-1, 0, 0, 0, 1, 2};

    private static final int SHEETS = 4;
    private static final int MOST_NUMBERS = 40;
    private static final int MOST_BYTES = 120;

    private final Roadstead here = new Roadstead();
    private final Roadstead kept = new Roadstead();
    // Every "would" is tried here, so that no call has to make anything.
    private final Roadstead trial = new Roadstead();
    private final Teller teller = new Teller();
    private final Sheet[] sheets = new Sheet[SHEETS];
    private final int[] found = new int[FINDINGS];
    private boolean isKept = false;

    public AnchorString() {
        for (int s = 0; s < SHEETS; s++) {
            sheets[s] = new Sheet();
        }
    }

    // ---- anchors, ships

    public int anchor(int anchor, int v) {
        if (!isIn(anchor, 0, ANCHORS - 1)) {
            return refuse(BEYOND);
        }
        return put(here.hold, anchor, v, 0, MOST_HOLD);
    }

    public int anchorOf(int anchor, int what) {
        if (!isIn(anchor, 0, ANCHORS - 1)) {
            return refuse(BEYOND);
        }
        switch (what) {
            case 0:
                return here.hold[anchor];
            case 1:
                here.fillStrains(here.wind);
                return here.loadOf(anchor);
            case 2:
                return here.hangersOf(FIRST_ANCHOR + anchor);
            case 3:
                return here.allOn(FIRST_ANCHOR + anchor);
            default:
                return refuse(BEYOND);
        }
    }

    public int ship(int kind, int size) {
        if (!isIn(kind, 0, KINDS - 1) || !isIn(size, 1, MOST_SIZE)) {
            return refuse(BEYOND);
        }
        if (here.ships >= MOST_SHIPS) {
            return refuse(FULL);
        }
        return here.addShip(kind, size);
    }

    public int of(int ship, int what) {
        if (!here.hasShip(ship)) {
            return refuse(BEYOND);
        }
        switch (what) {
            case 0:
                return here.kind[ship];
            case 1:
                return here.size[ship];
            case 2:
                return here.chain[ship];
            case 3:
                return here.worn[ship];
            case 4:
                return here.link[ship];
            case 5:
                return here.pullOf(ship, here.wind);
            case 6:
                here.fillStrains(here.wind);
                return here.strain[ship];
            case 7:
                return here.breaksAt(ship);
            case 8:
                return here.depthOf(ship);
            case 9:
                return here.stringOf(ship);
            default:
                return refuse(BEYOND);
        }
    }

    public int set(int ship, int what, int v) {
        if (!here.hasShip(ship)) {
            return refuse(BEYOND);
        }
        switch (what) {
            case 1:
                return put(here.size, ship, v, 1, MOST_SIZE);
            case 2:
                return put(here.chain, ship, v, 0, MOST_BEARS);
            case 3:
                return put(here.worn, ship, v, 0, MOST_WORN);
            default:
                return refuse(BEYOND);
        }
    }

    public int hang(int ship, int on) {
        if (!here.hasShip(ship) || !here.hasThing(on) || on == ship) {
            return refuse(BEYOND);
        }
        if (here.liesOn(on, ship)) {
            return refuse(STATE);
        }
        int was = here.link[ship];
        here.link[ship] = on;
        return was;
    }

    public int turn(int ship, int kind) {
        if (!here.hasShip(ship)) {
            return refuse(BEYOND);
        }
        return put(here.kind, ship, kind, 0, KINDS - 1);
    }

    public int as(int ship, int kind) {
        if (!here.hasShip(ship) || !isIn(kind, 0, KINDS - 1)) {
            return refuse(BEYOND);
        }
        if (!isUnder(here.kind[ship], kind)) {
            return refuse(KIND);
        }
        return here.size[ship];
    }

    public int odds(int wind, int v) {
        if (!isWind(wind)) {
            return refuse(BEYOND);
        }
        return put(here.odds, wind, v, 0, MOST_ODDS);
    }

    // ---- winds, hours

    public int hour(int w) {
        return passHours(1, w);
    }

    public int hours(int n, int w) {
        return passHours(n, w);
    }

    public int adrift() {
        return here.hangersOf(ADRIFT);
    }

    public int lost() {
        return here.allOn(ADRIFT);
    }

    public int now(int what) {
        switch (what) {
            case 0:
                return here.hour;
            case 1:
                return here.wind;
            case 2:
                return here.allLoads(here.wind);
            case 3:
                return here.greatestDepth();
            case 4:
                return here.allWorn();
            default:
                return refuse(BEYOND);
        }
    }

    // ---- on

    public int would(int wind) {
        if (!isWind(wind)) {
            return refuse(BEYOND);
        }
        trial.takeFrom(here);
        trial.settle(wind);
        return trial.hangersOf(ADRIFT);
    }

    public int holds() {
        int wind = here.greatestHeld();
        return wind < 0 ? refuse(NONE) : wind;
    }

    public int when(int w) {
        int why = whyNoForecast(w);
        if (why != 0) {
            return refuse(why);
        }
        int hour = hourOfFirstLoss(w);
        return hour == 0 ? refuse(NONE) : hour;
    }

    public int who(int w) {
        int why = whyNoForecast(w);
        if (why != 0) {
            return refuse(why);
        }
        hourOfFirstLoss(w);
        for (int s = 0; s < here.ships; s++) {
            if (trial.link[s] == ADRIFT && here.link[s] != ADRIFT) {
                return s;
            }
        }
        return refuse(NONE);
    }

    public int sure() {
        int sum = 0;
        for (int w = 0; w < WINDS; w++) {
            if (here.allHold(w)) {
                sum += here.odds[w];
            }
        }
        return sum;
    }

    // ---- who may leave, where to hang

    public int free() {
        int set = 0;
        for (int s = 0; s < here.ships; s++) {
            if (here.link[s] != ADRIFT && here.hangersOf(s) == 0) {
                set |= 1 << s;
            }
        }
        return set;
    }

    public int ahead(int ship) {
        if (!here.hasShip(ship)) {
            return refuse(BEYOND);
        }
        return Integer.bitCount(here.stringOf(ship)) - 1;
    }

    public int place(int ship, int wind) {
        if (!here.hasShip(ship) || !isWind(wind)) {
            return refuse(BEYOND);
        }
        int best = NONE;
        int least = MOST_SHIPS + 1;
        for (int thing = 0; thing < FIRST_ANCHOR + ANCHORS; thing++) {
            if (tryBerth(ship, thing) && trial.depthOf(ship) < least && trial.allHold(wind)) {
                best = thing;
                least = trial.depthOf(ship);
            }
        }
        return best == NONE ? refuse(NONE) : best;
    }

    public int best(int ship) {
        if (!here.hasShip(ship)) {
            return refuse(BEYOND);
        }
        int best = NONE;
        int greatest = -1;
        for (int thing = 0; thing < FIRST_ANCHOR + ANCHORS; thing++) {
            int wind = tryBerth(ship, thing) ? trial.greatestHeld() : -1;
            if (wind > greatest) {
                best = thing;
                greatest = wind;
            }
        }
        return best == NONE ? refuse(NONE) : best;
    }

    public int cut(int ship) {
        if (!here.hasShip(ship)) {
            return refuse(BEYOND);
        }
        if (here.link[ship] == ADRIFT) {
            return refuse(STATE);
        }
        return here.cutOut(ship);
    }

    public int canCut(int ship, int wind) {
        if (!here.hasShip(ship) || !isWind(wind)) {
            return refuse(BEYOND);
        }
        if (here.link[ship] == ADRIFT) {
            return refuse(STATE);
        }
        trial.takeFrom(here);
        trial.cutOut(ship);
        return trial.allHold(wind) ? 1 : 0;
    }

    // ---- chains

    public int matters() {
        int ship = NONE;
        int most = 0;
        for (int s = 0; s < here.ships; s++) {
            int lost = here.depthOf(s) == 0 ? 0 : Integer.bitCount(here.stringOf(s));
            if (lost > most) {
                ship = s;
                most = lost;
            }
        }
        return ship == NONE ? refuse(NONE) : ship;
    }

    public int bears(int ship, int wind) {
        if (!here.hasShip(ship) || !isWind(wind)) {
            return refuse(BEYOND);
        }
        if (here.link[ship] == ADRIFT) {
            return refuse(STATE);
        }
        if (!staysWith(ship, MOST_BEARS, wind)) {
            return refuse(NONE);
        }
        // A chain that stays is never the one that parts next, and a better one
        // isn't either: all goes as before. So what is enough has no gaps.
        int low = 0;
        int high = MOST_BEARS;
        for (int step = 0; step < MOST_BEARS && low < high; step++) {
            int middle = (low + high) / 2;
            if (staysWith(ship, middle, wind)) {
                high = middle;
            } else {
                low = middle + 1;
            }
        }
        return low;
    }

    public int weakest(int wind) {
        if (!isWind(wind)) {
            return refuse(BEYOND);
        }
        here.fillStrains(wind);
        int ship = NONE;
        int least = 0;
        for (int s = 0; s < here.ships; s++) {
            int left = here.breaksAt(s) - here.strain[s];
            if (here.link[s] != ADRIFT && (ship == NONE || left < least)) {
                ship = s;
                least = left;
            }
        }
        return ship == NONE ? refuse(NONE) : ship;
    }

    public int kind(int ship) {
        if (!here.hasShip(ship)) {
            return refuse(BEYOND);
        }
        trial.takeFrom(here);
        int best = 0;
        int greatest = -1;
        for (int k = 0; k < KINDS; k++) {
            trial.kind[ship] = k;
            int wind = trial.greatestHeld();
            if (wind > greatest) {
                best = k;
                greatest = wind;
            }
        }
        return best;
    }

    public int stronger() {
        trial.takeFrom(here);
        int best = 0;
        int greatest = -1;
        for (int a = 0; a < ANCHORS; a++) {
            trial.hold[a] = here.hold[a] + 1000;
            int wind = trial.greatestHeld();
            trial.hold[a] = here.hold[a];
            if (wind > greatest) {
                best = a;
                greatest = wind;
            }
        }
        return best;
    }

    // ---- the text

    public int feed(int bytes, int n) {
        if (!isIn(n, 1, 4)) {
            return refuse(BEYOND);
        }
        if (teller.tape.length + n > MOST_BYTES) {
            return refuse(FULL);
        }
        for (int k = n - 1; k >= 0; k--) {
            teller.tape.add((bytes >>> (8 * k)) & 255);
        }
        return teller.tape.length;
    }

    public int wipe() {
        int had = teller.tape.length;
        teller.tape.length = 0;
        return had;
    }

    public int text() {
        trial.takeFrom(here);
        int told = teller.tell(trial);
        if (told >= 0) {
            here.takeFrom(trial);
        }
        teller.tape.length = 0;
        return told;
    }

    // ---- sheets

    public int sheet(int s, int bits, int n) {
        Sheet sheet = sheetAt(s);
        if (sheet == null || (bits != 0 && bits != 8 && bits != 16 && bits != 64)) {
            return refuse(BEYOND);
        }
        if (n < 0) {
            return refuse(SIZE);
        }
        if (n > MOST_NUMBERS) {
            return refuse(BEYOND);
        }
        sheet.lay(bits, bits == 0 ? 0 : n);
        return sheet.length;
    }

    public long write(int s, int i, long v) {
        Sheet sheet = sheetAt(s);
        if (sheet == null) {
            return refuse(BEYOND);
        }
        if (sheet.isMissing()) {
            return refuse(MISSING);
        }
        if (!isIn(i, 0, sheet.length - 1)) {
            return refuse(BEYOND);
        }
        long was = sheet.numbers[i];
        sheet.put(i, v);
        return was;
    }

    public int copy(int s, int from, int t, int to, int n) {
        Sheet source = sheetAt(s);
        Sheet target = sheetAt(t);
        if (source == null || target == null) {
            return refuse(BEYOND);
        }
        if (source.isMissing() || target.isMissing()) {
            return refuse(MISSING);
        }
        if (source.bits != target.bits) {
            return refuse(KIND);
        }
        if (!source.hasRow(from, n) || !target.hasRow(to, n)) {
            return refuse(BEYOND);
        }
        System.arraycopy(source.numbers, from, target.numbers, to, n);
        return n;
    }

    public int lays(int s) {
        Sheet sheet = sheetAt(s);
        if (sheet == null) {
            return refuse(BEYOND);
        }
        if (sheet.isMissing()) {
            return refuse(MISSING);
        }
        int came = 0;
        for (int w = 0; w < WINDS && w < sheet.length; w++) {
            long v = sheet.numbers[w];
            if (v >= 0 && v <= MOST_ODDS) {
                here.odds[w] = (int) v;
                came++;
            }
        }
        return came;
    }

    public int dawn(int s) {
        Sheet sheet = sheetAt(s);
        if (sheet == null) {
            return refuse(BEYOND);
        }
        if (sheet.isMissing()) {
            return refuse(MISSING);
        }
        int n = Math.min(here.ships, sheet.length);
        for (int i = 0; i < n; i++) {
            sheet.put(i, here.link[i]);
        }
        return n;
    }

    public int read(int s) {
        Sheet sheet = sheetAt(s);
        if (sheet == null) {
            return refuse(BEYOND);
        }
        if (sheet.isMissing()) {
            return refuse(MISSING);
        }
        for (int w = 0; w < WINDS; w++) {
            trial.takeFrom(here);
            trial.settle(w);
            if (tellsOf(sheet, trial)) {
                return w;
            }
        }
        return refuse(NONE);
    }

    // ---- images

    public int image() {
        kept.takeFrom(here);
        isKept = true;
        return 1;
    }

    public int undo() {
        if (!isKept) {
            return refuse(NONE);
        }
        here.takeFrom(kept);
        return here.ships;
    }

    public int tear() {
        int was = isKept ? 1 : 0;
        isKept = false;
        return was;
    }

    public int count(int what) {
        switch (what) {
            case 0:
                return here.ships;
            case 1:
                return Integer.bitCount(here.hangersOf(ADRIFT));
            case 2:
                return teller.tape.length;
            case 3:
                return sumOf(here.odds, WINDS);
            default:
                return refuse(BEYOND);
        }
    }

    public int status(int which) {
        if (which == -1) {
            return sumOf(found, FINDINGS);
        }
        if (!isIn(which, 0, FINDINGS - 1)) {
            return refuse(BEYOND);
        }
        return found[which];
    }

    // ---- what the calls share

    private int refuse(int finding) {
        int which = BEYOND - finding;
        if (isIn(which, 0, FINDINGS - 1)) {
            found[which]++;
        }
        return finding;
    }

    /** Row's number i, which the caller knows to be there, becomes v: what it was. */
    private int put(int[] row, int i, int v, int low, int high) {
        if (!isIn(v, low, high)) {
            return refuse(BEYOND);
        }
        int was = row[i];
        row[i] = v;
        return was;
    }

    private Sheet sheetAt(int s) {
        return isIn(s, 0, SHEETS - 1) ? sheets[s] : null;
    }

    private int passHours(int n, int w) {
        if (!isIn(n, 1, MOST_HOURS) || !isWind(w)) {
            return refuse(BEYOND);
        }
        if (here.hour + n > LAST_HOUR) {
            return refuse(STATE);
        }
        int before = here.hangersOf(ADRIFT);
        for (int k = 0; k < n; k++) {
            here.passHour(w);
        }
        return Integer.bitCount(here.hangersOf(ADRIFT) & ~before);
    }

    private int whyNoForecast(int w) {
        if (!isWind(w)) {
            return BEYOND;
        }
        return here.hour > LAST_HOUR - MOST_HOURS ? STATE : 0;
    }

    /** The hour, or 0 if there is none; the trial roadstead is as behind it, or behind all. */
    private int hourOfFirstLoss(int w) {
        trial.takeFrom(here);
        int before = here.hangersOf(ADRIFT);
        for (int k = 1; k <= MOST_HOURS; k++) {
            trial.passHour(w);
            if (trial.hangersOf(ADRIFT) != before) {
                return k;
            }
        }
        return 0;
    }

    /** Whether a ship may hang on a thing and isn't lost there; if so, it does on trial. */
    private boolean tryBerth(int ship, int thing) {
        if (!here.hasThing(thing) || here.liesOn(thing, ship)) {
            return false;
        }
        trial.takeFrom(here);
        trial.link[ship] = thing;
        return trial.depthOf(ship) > 0;
    }

    private boolean staysWith(int ship, int chain, int wind) {
        trial.takeFrom(here);
        trial.chain[ship] = chain;
        trial.settle(wind);
        return trial.link[ship] != ADRIFT;
    }

    private static boolean tellsOf(Sheet sheet, Roadstead roadstead) {
        for (int i = 0; i < sheet.length && i < roadstead.ships; i++) {
            if (sheet.numbers[i] != roadstead.link[i]) {
                return false;
            }
        }
        return true;
    }

    private static boolean isIn(int v, int low, int high) {
        return v >= low && v <= high;
    }

    private static boolean isWind(int w) {
        return isIn(w, 0, WINDS - 1);
    }

    private static boolean isUnder(int kind, int above) {
        int k = kind;
        for (int step = 0; step < KINDS && isIn(k, 0, KINDS - 1); step++) {
            if (k == above) {
                return true;
            }
            k = KIND_ABOVE[k];
        }
        return false;
    }

    private static int sumOf(int[] row, int n) {
        int sum = 0;
        for (int i = 0; i < n && i < row.length; i++) {
            sum += row[i];
        }
        return sum;
    }

    /** All that section 1 of the document tells, but for the tape. */
    private static final class Roadstead {
        final int[] hold = new int[ANCHORS];
        final int[] odds = new int[WINDS];
        final int[] kind = new int[MOST_SHIPS];
        final int[] size = new int[MOST_SHIPS];
        final int[] chain = new int[MOST_SHIPS];
        final int[] worn = new int[MOST_SHIPS];
        final int[] link = new int[MOST_SHIPS];
        // No state: what fillStrains() found last.
        final int[] strain = new int[MOST_SHIPS];
        int ships = 0;
        int wind = 0;
        int hour = 0;

        Roadstead() {
            Arrays.fill(hold, 100);
            Arrays.fill(odds, 1);
        }

        void takeFrom(Roadstead other) {
            System.arraycopy(other.hold, 0, hold, 0, ANCHORS);
            System.arraycopy(other.odds, 0, odds, 0, WINDS);
            System.arraycopy(other.kind, 0, kind, 0, MOST_SHIPS);
            System.arraycopy(other.size, 0, size, 0, MOST_SHIPS);
            System.arraycopy(other.chain, 0, chain, 0, MOST_SHIPS);
            System.arraycopy(other.worn, 0, worn, 0, MOST_SHIPS);
            System.arraycopy(other.link, 0, link, 0, MOST_SHIPS);
            ships = other.ships;
            wind = other.wind;
            hour = other.hour;
        }

        /** The caller knows that there is room. */
        int addShip(int newKind, int newSize) {
            int s = ships;
            kind[s] = newKind;
            size[s] = newSize;
            chain[s] = FIRST_BEARS;
            worn[s] = 0;
            link[s] = ADRIFT;
            ships++;
            return s;
        }

        boolean hasShip(int s) {
            return s >= 0 && s < ships;
        }

        boolean hasThing(int thing) {
            return thing == ADRIFT || hasShip(thing)
                    || isIn(thing, FIRST_ANCHOR, FIRST_ANCHOR + ANCHORS - 1);
        }

        /** Whether a thing is a ship, or hangs on it, by however many. */
        boolean liesOn(int thing, int ship) {
            int t = thing;
            for (int step = 0; step < MOST_SHIPS && hasShip(t); step++) {
                if (t == ship) {
                    return true;
                }
                t = link[t];
            }
            return false;
        }

        /** What a ship's string hangs on in the end: an anchor, or ADRIFT. */
        int rootOf(int ship) {
            int t = ship;
            for (int step = 0; step < MOST_SHIPS && hasShip(t); step++) {
                t = link[t];
            }
            return t;
        }

        int depthOf(int ship) {
            int depth = 0;
            int t = ship;
            for (int step = 0; step < MOST_SHIPS && hasShip(t); step++) {
                t = link[t];
                depth++;
            }
            return t == ADRIFT ? 0 : depth;
        }

        int greatestDepth() {
            int greatest = 0;
            for (int s = 0; s < ships; s++) {
                greatest = Math.max(greatest, depthOf(s));
            }
            return greatest;
        }

        /** The set of ships that hang on a thing themselves (ADRIFT: on nothing). */
        int hangersOf(int thing) {
            int set = 0;
            for (int s = 0; s < ships; s++) {
                if (link[s] == thing) {
                    set |= 1 << s;
                }
            }
            return set;
        }

        /** The set of ships whose strings hang on an anchor, or are ADRIFT. */
        int allOn(int root) {
            int set = 0;
            for (int s = 0; s < ships; s++) {
                if (rootOf(s) == root) {
                    set |= 1 << s;
                }
            }
            return set;
        }

        int stringOf(int ship) {
            int set = 0;
            for (int s = 0; s < ships; s++) {
                if (liesOn(s, ship)) {
                    set |= 1 << s;
                }
            }
            return set;
        }

        int pullOf(int s, int w) {
            int plain = size[s] * w / 2;
            switch (kind[s]) {
                case TALL:
                    return plain + plain / 2;
                case TOWED:
                    return plain / 2;
                case DRAGGING:
                    return plain + 5;
                case BURNING:
                    return plain + plain / 2 + 10 * Integer.bitCount(hangersOf(s));
                case SMUGGLER:
                    return w < 4 ? 0 : plain / 2;
                default:
                    return plain;
            }
        }

        void fillStrains(int w) {
            Arrays.fill(strain, 0);
            for (int s = 0; s < ships; s++) {
                int pull = pullOf(s, w);
                int t = s;
                for (int step = 0; step < MOST_SHIPS && hasShip(t); step++) {
                    strain[t] += pull;
                    t = link[t];
                }
            }
        }

        /** By the strains that fillStrains() found. */
        int loadOf(int anchor) {
            int load = 0;
            for (int s = 0; s < ships; s++) {
                if (link[s] == FIRST_ANCHOR + anchor) {
                    load += strain[s];
                }
            }
            return load;
        }

        int allLoads(int w) {
            fillStrains(w);
            int sum = 0;
            for (int a = 0; a < ANCHORS; a++) {
                sum += loadOf(a);
            }
            return sum;
        }

        int allWorn() {
            return sumOf(worn, ships);
        }

        int breaksAt(int s) {
            int left = Math.max(0, chain[s] - worn[s]);
            return kind[s] == SMUGGLER ? left / 2 : left;
        }

        /** The first ship whose chain parts, by the strains found; -1 if none does. */
        int firstToPart() {
            for (int s = 0; s < ships; s++) {
                if (link[s] != ADRIFT && strain[s] > breaksAt(s)) {
                    return s;
                }
            }
            return -1;
        }

        boolean isDragging(int anchor) {
            return loadOf(anchor) > hold[anchor];
        }

        /** Leaves the strains behind it: whoever drags hung on no ship, and changes none. */
        void settle(int w) {
            for (int round = 0; round <= MOST_SHIPS; round++) {
                fillStrains(w);
                int s = firstToPart();
                if (s < 0) {
                    break;
                }
                link[s] = ADRIFT;
            }
            for (int a = 0; a < ANCHORS; a++) {
                if (isDragging(a)) {
                    hangAll(FIRST_ANCHOR + a, ADRIFT);
                }
            }
        }

        void hangAll(int from, int to) {
            for (int s = 0; s < ships; s++) {
                if (link[s] == from) {
                    link[s] = to;
                }
            }
        }

        int cutOut(int ship) {
            int freed = Integer.bitCount(hangersOf(ship));
            hangAll(ship, link[ship]);
            link[ship] = ADRIFT;
            return freed;
        }

        void passHour(int w) {
            wind = w;
            settle(w);
            for (int s = 0; s < ships; s++) {
                if (link[s] != ADRIFT && strain[s] > breaksAt(s) / 2) {
                    worn[s] = Math.min(MOST_WORN, worn[s] + 1);
                }
            }
            hour++;
        }

        /** Whether SETTLE would change nothing, which needs no trial. */
        boolean allHold(int w) {
            fillStrains(w);
            if (firstToPart() >= 0) {
                return false;
            }
            for (int a = 0; a < ANCHORS; a++) {
                if (isDragging(a)) {
                    return false;
                }
            }
            return true;
        }

        /** The greatest wind in which and below which all hold, -1 if there is none. */
        int greatestHeld() {
            int w = 0;
            while (w < WINDS && allHold(w)) {
                w++;
            }
            return w - 1;
        }
    }

    /** A row of numbers of so many bits; 0 bits: it is missing. */
    private static final class Sheet {
        final long[] numbers = new long[MOST_NUMBERS];
        int bits = 0;
        int length = 0;

        boolean isMissing() {
            return bits == 0;
        }

        void lay(int newBits, int n) {
            Arrays.fill(numbers, 0L);
            bits = newBits;
            length = n;
        }

        /** The caller knows that there is a number i. */
        void put(int i, long v) {
            if (bits == 8) {
                numbers[i] = (byte) v;
            } else if (bits == 16) {
                numbers[i] = (short) v;
            } else {
                numbers[i] = v;
            }
        }

        boolean hasRow(int from, int n) {
            return from >= 0 && n >= 0 && n <= length && from <= length - n;
        }
    }

    /** THE TAPE, and the tokens on it. */
    private static final class Tape {
        static final int END = 0;
        static final int WORD = 1;
        static final int NUMBER = 2;
        static final int SIGN = 3;
        static final int BAD = 4;

        // Words 0 to 5 are the kinds.
        static final int SIZE_WORD = 6;
        static final int BEARS_WORD = 7;
        static final int WORN_WORD = 8;
        static final int ON_WORD = 9;
        static final int AT_WORD = 10;
        static final int ANCHOR_WORD = 11;
        static final int HANG_WORD = 12;
        static final int ODDS_WORD = 13;
        static final int WORDS = 14;
        static final int OTHER_WORD = -1;

        static final int TOO_MUCH = 10000;

        final int[] bytes = new int[MOST_BYTES];
        int length = 0;

        // One more than there are bytes, for the END.
        final int[] sort = new int[MOST_BYTES + 1];
        final int[] start = new int[MOST_BYTES + 1];
        final int[] value = new int[MOST_BYTES + 1];
        int tokens = 0;

        /** The caller knows that there is room. */
        void add(int b) {
            bytes[length] = b;
            length++;
        }

        void findTokens() {
            tokens = 0;
            int place = 0;
            for (int step = 0; step < MOST_BYTES && place < length; step++) {
                int behind = place + 1;
                if (hasLetter(place)) {
                    behind = behindLetters(place);
                    addToken(WORD, place, wordOf(place, behind));
                } else if (hasDigit(place)) {
                    behind = behindDigits(place);
                    addToken(NUMBER, place, numberOf(place, behind));
                } else if (bytes[place] == ';') {
                    addToken(SIGN, place, 0);
                } else if (bytes[place] != ' ') {
                    addToken(BAD, place, 0);
                }
                place = behind;
            }
            addToken(END, length, 0);
        }

        /** Each token but the END has a byte of its own, so there is room. */
        private void addToken(int newSort, int newStart, int newValue) {
            sort[tokens] = newSort;
            start[tokens] = newStart;
            value[tokens] = newValue;
            tokens++;
        }

        private boolean hasLetter(int place) {
            return isIn(bytes[place], 'a', 'z');
        }

        private boolean hasDigit(int place) {
            return isIn(bytes[place], '0', '9');
        }

        private int behindLetters(int from) {
            int place = from;
            while (place < length && hasLetter(place)) {
                place++;
            }
            return place;
        }

        private int behindDigits(int from) {
            int place = from;
            while (place < length && hasDigit(place)) {
                place++;
            }
            return place;
        }

        private int numberOf(int from, int behind) {
            int number = 0;
            for (int place = from; place < behind; place++) {
                number = Math.min(TOO_MUCH, number * 10 + bytes[place] - '0');
            }
            return number;
        }

        private int wordOf(int from, int behind) {
            for (int word = 0; word < WORDS; word++) {
                if (isSpelled(from, behind, spellingOf(word))) {
                    return word;
                }
            }
            return OTHER_WORD;
        }

        private boolean isSpelled(int from, int behind, String spelling) {
            if (behind - from != spelling.length()) {
                return false;
            }
            for (int i = 0; i < spelling.length(); i++) {
                if (bytes[from + i] != spelling.charAt(i)) {
                    return false;
                }
            }
            return true;
        }

        private static String spellingOf(int word) {
            switch (word) {
                case 0:
                    return "ship";
                case TALL:
                    return "tall";
                case TOWED:
                    return "towed";
                case DRAGGING:
                    return "dragging";
                case BURNING:
                    return "burning";
                case SMUGGLER:
                    return "smuggler";
                case SIZE_WORD:
                    return "size";
                case BEARS_WORD:
                    return "bears";
                case WORN_WORD:
                    return "worn";
                case ON_WORD:
                    return "on";
                case AT_WORD:
                    return "at";
                case ANCHOR_WORD:
                    return "anchor";
                case HANG_WORD:
                    return "hang";
                default:
                    return "odds";
            }
        }
    }

    /** Brings the items of a text to a roadstead; at a fault it stays at that token. */
    private static final class Teller {
        final Tape tape = new Tape();
        private int token = 0;
        /** The number passed last. */
        private int number = 0;

        /** How many items, or -1 less the place of the fault. */
        int tell(Roadstead roadstead) {
            tape.findTokens();
            token = 0;
            for (int items = 1; items <= MOST_BYTES; items++) {
                if (!takeItem(roadstead)) {
                    break;
                }
                if (tape.sort[token] == Tape.END) {
                    return items;
                }
                if (tape.sort[token] != Tape.SIGN) {
                    break;
                }
                pass();
            }
            return -1 - tape.start[token];
        }

        private boolean takeItem(Roadstead roadstead) {
            if (tape.sort[token] != Tape.WORD) {
                return false;
            }
            int word = tape.value[token];
            switch (word) {
                case Tape.ANCHOR_WORD:
                    return takePair(roadstead.hold, ANCHORS, MOST_HOLD);
                case Tape.ODDS_WORD:
                    return takePair(roadstead.odds, WINDS, MOST_ODDS);
                case Tape.HANG_WORD:
                    return takeHang(roadstead);
                default:
                    return isIn(word, 0, KINDS - 1) && takeShip(roadstead, word);
            }
        }

        private boolean takeShip(Roadstead roadstead, int kind) {
            if (roadstead.ships >= MOST_SHIPS) {
                return false;
            }
            pass();
            int s = roadstead.addShip(kind, FIRST_SIZE);
            return takePerhaps(Tape.SIZE_WORD, roadstead.size, s, 1, MOST_SIZE)
                    && takePerhaps(Tape.BEARS_WORD, roadstead.chain, s, 0, MOST_BEARS)
                    && takePerhaps(Tape.WORN_WORD, roadstead.worn, s, 0, MOST_WORN)
                    && (!isBerth() || takeBerth(roadstead, s));
        }

        private boolean takePerhaps(int word, int[] row, int s, int low, int high) {
            if (!isWord(word)) {
                return true;
            }
            pass();
            if (!takeNumber(low, high)) {
                return false;
            }
            row[s] = number;
            return true;
        }

        /** The first number says which of the row's n numbers becomes the second one. */
        private boolean takePair(int[] row, int n, int high) {
            pass();
            if (!takeNumber(0, n - 1)) {
                return false;
            }
            int i = number;
            if (!takeNumber(0, high)) {
                return false;
            }
            row[i] = number;
            return true;
        }

        private boolean takeHang(Roadstead roadstead) {
            pass();
            if (!takeNumber(0, roadstead.ships - 1)) {
                return false;
            }
            return isBerth() && takeBerth(roadstead, number);
        }

        private boolean isBerth() {
            return isWord(Tape.ON_WORD) || isWord(Tape.AT_WORD);
        }

        private boolean takeBerth(Roadstead roadstead, int s) {
            boolean isShip = isWord(Tape.ON_WORD);
            pass();
            if (isShip && roadstead.liesOn(tape.value[token], s)) {
                return false;
            }
            if (!takeNumber(0, isShip ? roadstead.ships - 1 : ANCHORS - 1)) {
                return false;
            }
            roadstead.link[s] = isShip ? number : FIRST_ANCHOR + number;
            return true;
        }

        private boolean takeNumber(int low, int high) {
            if (tape.sort[token] != Tape.NUMBER || !isIn(tape.value[token], low, high)) {
                return false;
            }
            number = tape.value[token];
            pass();
            return true;
        }

        private boolean isWord(int word) {
            return tape.sort[token] == Tape.WORD && tape.value[token] == word;
        }

        private void pass() {
            if (token < tape.tokens - 1) {
                token++;
            }
        }
    }
}
