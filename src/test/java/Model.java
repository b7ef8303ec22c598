import java.util.ArrayList;
import java.util.HashSet;
import java.util.List;
import java.util.Set;
import java.util.TreeMap;
import java.util.regex.Matcher;
import java.util.regex.Pattern;

/**
 * The document written a second time, as slowly and plainly as can be: every
 * "would" is done on a copy, every least or greatest is sought one by one.
 */
final class Model {
    /** A finding on its way out of a call. */
    private static final class Finding extends RuntimeException {
        private static final long serialVersionUID = 1L;
        final int what;

        Finding(int what) {
            super(null, null, false, false);
            this.what = what;
        }
    }

    private static final class Ship {
        int kind;
        int size;
        int bears = 50;
        int worn = 0;
        int on = -1;

        Ship copy() {
            Ship s = new Ship();
            s.kind = kind;
            s.size = size;
            s.bears = bears;
            s.worn = worn;
            s.on = on;
            return s;
        }
    }

    private static final class Road {
        List<Ship> ships = new ArrayList<>();
        int[] hold = {100, 100, 100, 100, 100, 100};
        int[] odds = {1, 1, 1, 1, 1, 1, 1, 1, 1, 1, 1, 1, 1};
        int wind = 0;
        int hour = 0;

        Road copy() {
            Road r = new Road();
            for (Ship s : ships) {
                r.ships.add(s.copy());
            }
            r.hold = hold.clone();
            r.odds = odds.clone();
            r.wind = wind;
            r.hour = hour;
            return r;
        }

        List<Integer> on(int thing) {
            List<Integer> list = new ArrayList<>();
            for (int s = 0; s < ships.size(); s++) {
                if (ships.get(s).on == thing) {
                    list.add(s);
                }
            }
            return list;
        }

        Set<Integer> string(int thing) {
            Set<Integer> set = new HashSet<>();
            if (thing < 12) {
                set.add(thing);
            }
            for (int s : on(thing)) {
                set.addAll(string(s));
            }
            return set;
        }

        int pull(int s, int w) {
            return pullAs(s, w, ships.get(s).kind);
        }

        int pullAs(int s, int w, int kind) {
            switch (kind) {
                case 0:
                    return ships.get(s).size * w / 2;
                case 1:
                    return pullAs(s, w, 0) + pullAs(s, w, 0) / 2;
                case 2:
                    return pullAs(s, w, 0) / 2;
                case 3:
                    return pullAs(s, w, 0) + 5;
                case 4:
                    return pullAs(s, w, 1) + 10 * on(s).size();
                default:
                    return w < 4 ? 0 : pullAs(s, w, 2);
            }
        }

        int strain(int s, int w) {
            int sum = pull(s, w);
            for (int t : on(s)) {
                sum += strain(t, w);
            }
            return sum;
        }

        int load(int a, int w) {
            int sum = 0;
            for (int t : on(100 + a)) {
                sum += strain(t, w);
            }
            return sum;
        }

        int breaks(int s) {
            Ship p = ships.get(s);
            int left = p.bears < p.worn ? 0 : p.bears - p.worn;
            return p.kind == 5 ? left / 2 : left;
        }

        int depth(int s) {
            int on = ships.get(s).on;
            if (on == -1) {
                return 0;
            }
            if (on >= 100) {
                return 1;
            }
            int d = depth(on);
            return d == 0 ? 0 : d + 1;
        }

        boolean partOne(int w) {
            for (int s = 0; s < ships.size(); s++) {
                if (ships.get(s).on != -1 && strain(s, w) > breaks(s)) {
                    ships.get(s).on = -1;
                    return true;
                }
            }
            return false;
        }

        Road settle(int w) {
            boolean again = true;
            while (again) {
                again = partOne(w);
            }
            for (int a = 0; a < 6; a++) {
                if (load(a, w) > hold[a]) {
                    for (int s : on(100 + a)) {
                        ships.get(s).on = -1;
                    }
                }
            }
            return this;
        }

        void pass(int w) {
            wind = w;
            settle(w);
            for (int s = 0; s < ships.size(); s++) {
                Ship p = ships.get(s);
                if (p.on != -1 && 2 * strain(s, w) > breaks(s) && p.worn < 99) {
                    p.worn++;
                }
            }
            hour++;
        }

        boolean holdIn(int w) {
            return copy().settle(w).on(-1).equals(on(-1));
        }

        int greatest() {
            int best = -1;
            for (int w = 0; w <= 12; w++) {
                if (holdIn(w) && best == w - 1) {
                    best = w;
                }
            }
            return best;
        }

        void cut(int s) {
            for (int t : on(s)) {
                ships.get(t).on = ships.get(s).on;
            }
            ships.get(s).on = -1;
        }

        boolean mayHang(int s, int thing) {
            boolean there = thing >= 100 && thing < 106 || thing >= 0 && thing < ships.size();
            return there && !string(s).contains(thing);
        }
    }

    private Road road = new Road();
    private Road kept = null;
    private final List<Integer> tape = new ArrayList<>();
    private final int[] bits = new int[4];
    private final long[][] sheets = new long[4][];
    private final int[] found = new int[7];

    private static int set(Iterable<Integer> list) {
        int set = 0;
        for (int s : list) {
            set |= 1 << s;
        }
        return set;
    }

    private static void need(boolean fine, int finding) {
        if (!fine) {
            throw new Finding(finding);
        }
    }

    private void needShip(int s) {
        need(s >= 0 && s < road.ships.size(), Due.BEYOND);
    }

    private static void needIn(int v, int low, int high) {
        need(low <= v && v <= high, Due.BEYOND);
    }

    /** A call by its name. */
    long call(String name, long[] a) {
        try {
            return answer(name, a);
        } catch (Finding f) {
            found[-1000000001 - f.what]++;
            return f.what;
        }
    }

    private long answer(String name, long[] a) {
        int p = a.length > 0 ? (int) a[0] : 0;
        int q = a.length > 1 ? (int) a[1] : 0;
        int r = a.length > 2 ? (int) a[2] : 0;
        switch (name) {
            case "anchor": return anchor(p, q);
            case "anchorOf": return anchorOf(p, q);
            case "ship": return ship(p, q);
            case "of": return of(p, q);
            case "set": return set(p, q, r);
            case "hang": return hang(p, q);
            case "turn": return turn(p, q);
            case "as": return as(p, q);
            case "odds": return odds(p, q);
            case "hour": return hours(1, p);
            case "hours": return hours(p, q);
            case "adrift": return set(road.on(-1));
            case "lost": return lost(road);
            case "now": return now(p);
            case "would": needIn(p, 0, 12); return set(road.copy().settle(p).on(-1));
            case "holds": need(road.greatest() >= 0, Due.NONE); return road.greatest();
            case "when": return forecast(p)[0];
            case "who": return forecast(p)[1];
            case "sure": return sure();
            case "free": return free();
            case "ahead": needShip(p); return road.string(p).size() - 1;
            case "place": return place(p, q);
            case "best": return best(p);
            case "cut": return cut(p);
            case "canCut": return canCut(p, q);
            case "matters": return matters();
            case "bears": return bears(p, q);
            case "weakest": return weakest(p);
            case "kind": return kind(p);
            case "stronger": return stronger();
            case "feed": return feed(p, q);
            case "wipe": return wipe();
            case "text": return text();
            case "sheet": return sheet(p, q, r);
            case "write": return write(p, q, a[2]);
            case "copy": return copy(p, q, r, (int) a[3], (int) a[4]);
            case "lays": return lays(p);
            case "dawn": return dawn(p);
            case "read": return read(p);
            case "image": kept = road.copy(); return 1;
            case "undo": need(kept != null, Due.NONE); road = kept.copy(); return road.ships.size();
            case "tear": return tear();
            case "count": return count(p);
            case "status": return status(p);
            default: throw new IllegalStateException(name);
        }
    }

    private int anchor(int a, int v) {
        needIn(a, 0, 5);
        needIn(v, 0, 9999);
        int was = road.hold[a];
        road.hold[a] = v;
        return was;
    }

    private int anchorOf(int a, int what) {
        needIn(a, 0, 5);
        needIn(what, 0, 3);
        return what == 0 ? road.hold[a] : what == 1 ? road.load(a, road.wind)
                : what == 2 ? set(road.on(100 + a)) : set(road.string(100 + a));
    }

    private int ship(int kind, int size) {
        needIn(kind, 0, 5);
        needIn(size, 1, 99);
        need(road.ships.size() < 12, Due.FULL);
        Ship s = new Ship();
        s.kind = kind;
        s.size = size;
        road.ships.add(s);
        return road.ships.size() - 1;
    }

    private int of(int s, int what) {
        needShip(s);
        needIn(what, 0, 9);
        Ship p = road.ships.get(s);
        int[] all = {p.kind, p.size, p.bears, p.worn, p.on, road.pull(s, road.wind), road.strain(s, road.wind),
            road.breaks(s), road.depth(s), set(road.string(s))};
        return all[what];
    }

    private int set(int s, int what, int v) {
        needShip(s);
        needIn(what, 1, 3);
        needIn(v, what == 1 ? 1 : 0, what == 2 ? 9999 : 99);
        Ship p = road.ships.get(s);
        int was = of(s, what);
        if (what == 1) {
            p.size = v;
        } else if (what == 2) {
            p.bears = v;
        } else {
            p.worn = v;
        }
        return was;
    }

    private int hang(int s, int on) {
        needShip(s);
        need(on == -1 || on >= 0 && on < road.ships.size() || on >= 100 && on <= 105, Due.BEYOND);
        need(on != s, Due.BEYOND);
        need(!road.string(s).contains(on), Due.STATE);
        int was = road.ships.get(s).on;
        road.ships.get(s).on = on;
        return was;
    }

    private int turn(int s, int kind) {
        needShip(s);
        needIn(kind, 0, 5);
        int was = road.ships.get(s).kind;
        road.ships.get(s).kind = kind;
        return was;
    }

    private int as(int s, int kind) {
        needShip(s);
        needIn(kind, 0, 5);
        int k = road.ships.get(s).kind;
        need(kind == 0 || kind == k || kind == 1 && k == 4 || kind == 2 && k == 5, Due.KIND);
        return road.ships.get(s).size;
    }

    private int odds(int w, int v) {
        needIn(w, 0, 12);
        needIn(v, 0, 99);
        int was = road.odds[w];
        road.odds[w] = v;
        return was;
    }

    private int hours(int n, int w) {
        needIn(n, 1, 100);
        needIn(w, 0, 12);
        need(road.hour + n <= 9999, Due.STATE);
        int before = road.on(-1).size();
        for (int k = 0; k < n; k++) {
            road.pass(w);
        }
        return road.on(-1).size() - before;
    }

    private static int lost(Road r) {
        List<Integer> list = new ArrayList<>();
        for (int s = 0; s < r.ships.size(); s++) {
            if (r.depth(s) == 0) {
                list.add(s);
            }
        }
        return set(list);
    }

    private int now(int what) {
        needIn(what, 0, 4);
        int loads = 0;
        for (int a = 0; a < 6; a++) {
            loads += road.load(a, road.wind);
        }
        int deepest = 0;
        int worn = 0;
        for (int s = 0; s < road.ships.size(); s++) {
            deepest = Math.max(deepest, road.depth(s));
            worn += road.ships.get(s).worn;
        }
        return new int[] {road.hour, road.wind, loads, deepest, worn}[what];
    }

    private int[] forecast(int w) {
        needIn(w, 0, 12);
        need(road.hour <= 9899, Due.STATE);
        Road r = road.copy();
        for (int k = 1; k <= 100; k++) {
            r.pass(w);
            for (int s : r.on(-1)) {
                if (road.ships.get(s).on != -1) {
                    return new int[] {k, s};
                }
            }
        }
        throw new Finding(Due.NONE);
    }

    private int sure() {
        int sum = 0;
        for (int w = 0; w <= 12; w++) {
            sum += road.holdIn(w) ? road.odds[w] : 0;
        }
        return sum;
    }

    private int free() {
        List<Integer> list = new ArrayList<>();
        for (int s = 0; s < road.ships.size(); s++) {
            if (road.ships.get(s).on != -1 && road.on(s).isEmpty()) {
                list.add(s);
            }
        }
        return set(list);
    }

    private int place(int s, int w) {
        needShip(s);
        needIn(w, 0, 12);
        TreeMap<Integer, Integer> byDepth = new TreeMap<>();
        for (int thing = 0; thing < 106; thing++) {
            if (road.mayHang(s, thing)) {
                Road r = road.copy();
                r.ships.get(s).on = thing;
                if (r.depth(s) >= 1 && r.holdIn(w)) {
                    byDepth.putIfAbsent(r.depth(s), thing);
                }
            }
        }
        need(!byDepth.isEmpty(), Due.NONE);
        return byDepth.firstEntry().getValue();
    }

    private int best(int s) {
        needShip(s);
        TreeMap<Integer, Integer> byWind = new TreeMap<>();
        for (int thing = 0; thing < 106; thing++) {
            if (road.mayHang(s, thing)) {
                Road r = road.copy();
                r.ships.get(s).on = thing;
                if (r.depth(s) >= 1 && r.greatest() >= 0) {
                    byWind.putIfAbsent(r.greatest(), thing);
                }
            }
        }
        need(!byWind.isEmpty(), Due.NONE);
        return byWind.lastEntry().getValue();
    }

    private int cut(int s) {
        needShip(s);
        need(road.ships.get(s).on != -1, Due.STATE);
        int n = road.on(s).size();
        road.cut(s);
        return n;
    }

    private int canCut(int s, int w) {
        needShip(s);
        needIn(w, 0, 12);
        need(road.ships.get(s).on != -1, Due.STATE);
        Road r = road.copy();
        r.cut(s);
        return r.holdIn(w) ? 1 : 0;
    }

    private int matters() {
        int best = Due.NONE;
        int most = 0;
        int now = Integer.bitCount(lost(road));
        for (int s = 0; s < road.ships.size(); s++) {
            Road r = road.copy();
            r.ships.get(s).on = -1;
            int more = Integer.bitCount(lost(r)) - now;
            if (more > most) {
                most = more;
                best = s;
            }
        }
        need(best >= 0, Due.NONE);
        return best;
    }

    private int bears(int s, int w) {
        needShip(s);
        needIn(w, 0, 12);
        need(road.ships.get(s).on != -1, Due.STATE);
        for (int b = 0; b <= 9999; b++) {
            Road r = road.copy();
            r.ships.get(s).bears = b;
            int breaks = r.breaks(s);
            // What breaks alike settles alike, so that not all 10000 need be tried.
            if (b > 0 && b < 9999) {
                r.ships.get(s).bears = b - 1;
                if (r.breaks(s) == breaks) {
                    continue;
                }
                r.ships.get(s).bears = b;
            }
            if (r.settle(w).ships.get(s).on != -1) {
                return b;
            }
        }
        throw new Finding(Due.NONE);
    }

    private int weakest(int w) {
        needIn(w, 0, 12);
        TreeMap<Integer, Integer> byLeft = new TreeMap<>();
        for (int s = 0; s < road.ships.size(); s++) {
            if (road.ships.get(s).on != -1) {
                byLeft.putIfAbsent(road.breaks(s) - road.strain(s, w), s);
            }
        }
        need(!byLeft.isEmpty(), Due.NONE);
        return byLeft.firstEntry().getValue();
    }

    private int kind(int s) {
        needShip(s);
        TreeMap<Integer, Integer> byWind = new TreeMap<>();
        for (int k = 0; k < 6; k++) {
            Road r = road.copy();
            r.ships.get(s).kind = k;
            byWind.putIfAbsent(r.greatest(), k);
        }
        return byWind.lastEntry().getValue();
    }

    private int stronger() {
        TreeMap<Integer, Integer> byWind = new TreeMap<>();
        for (int a = 0; a < 6; a++) {
            Road r = road.copy();
            r.hold[a] += 1000;
            byWind.putIfAbsent(r.greatest(), a);
        }
        return byWind.lastEntry().getValue();
    }

    private int feed(int bytes, int n) {
        needIn(n, 1, 4);
        need(tape.size() + n <= 120, Due.FULL);
        for (int k = 4 - n; k < 4; k++) {
            tape.add(new int[] {bytes >>> 24, bytes >> 16 & 255, bytes >> 8 & 255, bytes & 255}[k]);
        }
        return tape.size();
    }

    private int wipe() {
        int n = tape.size();
        tape.clear();
        return n;
    }

    /** A fault on its way out of a text. */
    private static final class Fault extends RuntimeException {
        private static final long serialVersionUID = 1L;
        final int place;

        Fault(int place) {
            super(null, null, false, false);
            this.place = place;
        }
    }

    private static final Pattern TOKEN = Pattern.compile(" *([a-z]+|[0-9]+|;|[^ ]|$)", Pattern.DOTALL);
    private static final List<String> KINDS = List.of("ship", "tall", "towed", "dragging", "burning", "smuggler");

    private final class Text {
        final Matcher m;
        final Road r = road.copy();

        Text(String text) {
            m = TOKEN.matcher(text);
            m.lookingAt();
        }

        String word() {
            return m.group(1);
        }

        void next() {
            m.region(m.end(), m.regionEnd());
            m.lookingAt();
        }

        Fault fault() {
            return new Fault(m.start(1));
        }

        void eat(String word) {
            if (!word().equals(word)) {
                throw fault();
            }
            next();
        }

        boolean perhaps(String word) {
            boolean is = word().equals(word);
            if (is) {
                next();
            }
            return is;
        }

        int number(int low, int high) {
            if (!word().matches("[0-9]+")) {
                throw fault();
            }
            java.math.BigInteger n = new java.math.BigInteger(word());
            if (n.compareTo(java.math.BigInteger.valueOf(low)) < 0 || n.compareTo(java.math.BigInteger.valueOf(high)) > 0) {
                throw fault();
            }
            next();
            return n.intValue();
        }

        int all() {
            int items = 0;
            do {
                item();
                items++;
            } while (perhaps(";"));
            if (!word().isEmpty()) {
                throw fault();
            }
            return items;
        }

        void item() {
            int kind = KINDS.indexOf(word());
            if (kind >= 0 && r.ships.size() < 12) {
                next();
                newShip(kind);
            } else if (perhaps("anchor")) {
                int a = number(0, 5);
                r.hold[a] = number(0, 9999);
            } else if (perhaps("odds")) {
                int w = number(0, 12);
                r.odds[w] = number(0, 99);
            } else {
                eat("hang");
                hangOne();
            }
        }

        void newShip(int kind) {
            Ship s = new Ship();
            s.kind = kind;
            s.size = perhaps("size") ? number(1, 99) : 10;
            s.bears = perhaps("bears") ? number(0, 9999) : 50;
            s.worn = perhaps("worn") ? number(0, 99) : 0;
            s.on = perhaps("on") ? number(0, r.ships.size() - 1) : perhaps("at") ? 100 + number(0, 5) : -1;
            r.ships.add(s);
        }

        void hangOne() {
            int s = number(0, r.ships.size() - 1);
            if (perhaps("at")) {
                r.ships.get(s).on = 100 + number(0, 5);
                return;
            }
            eat("on");
            Fault fault = fault();
            int on = number(0, r.ships.size() - 1);
            if (!r.mayHang(s, on)) {
                throw fault;
            }
            r.ships.get(s).on = on;
        }
    }

    private int text() {
        StringBuilder b = new StringBuilder();
        for (int c : tape) {
            b.append((char) c);
        }
        tape.clear();
        Text text = new Text(b.toString());
        try {
            int items = text.all();
            road = text.r;
            return items;
        } catch (Fault f) {
            return -1 - f.place;
        }
    }

    private int sheet(int s, int bits, int n) {
        needIn(s, 0, 3);
        need(List.of(0, 8, 16, 64).contains(bits), Due.BEYOND);
        need(n >= 0, Due.SIZE);
        need(n <= 40, Due.BEYOND);
        this.bits[s] = bits;
        sheets[s] = bits == 0 ? null : new long[n];
        return bits == 0 ? 0 : n;
    }

    private void needSheet(int s) {
        needIn(s, 0, 3);
        need(sheets[s] != null, Due.MISSING);
    }

    private long write(int s, int i, long v) {
        needSheet(s);
        needIn(i, 0, sheets[s].length - 1);
        long was = sheets[s][i];
        int off = 64 - bits[s];
        sheets[s][i] = v << off >> off;
        return was;
    }

    private int copy(int s, int from, int t, int to, int n) {
        needIn(s, 0, 3);
        needIn(t, 0, 3);
        need(sheets[s] != null && sheets[t] != null, Due.MISSING);
        need(bits[s] == bits[t], Due.KIND);
        need(from >= 0 && to >= 0 && n >= 0, Due.BEYOND);
        need((long) from + n <= sheets[s].length && (long) to + n <= sheets[t].length, Due.BEYOND);
        long[] were = sheets[s].clone();
        for (int i = 0; i < n; i++) {
            sheets[t][to + i] = were[from + i];
        }
        return n;
    }

    private int lays(int s) {
        needSheet(s);
        int came = 0;
        for (int i = 0; i < sheets[s].length; i++) {
            if (i <= 12 && sheets[s][i] >= 0 && sheets[s][i] <= 99) {
                road.odds[i] = (int) sheets[s][i];
                came++;
            }
        }
        return came;
    }

    private int dawn(int s) {
        needSheet(s);
        int n = 0;
        for (int i = 0; i < sheets[s].length && i < road.ships.size(); i++) {
            write(s, i, road.ships.get(i).on);
            n++;
        }
        return n;
    }

    private int read(int s) {
        needSheet(s);
        for (int w = 0; w <= 12; w++) {
            Road r = road.copy().settle(w);
            boolean same = true;
            for (int i = 0; i < sheets[s].length && i < r.ships.size(); i++) {
                same = same && r.ships.get(i).on == sheets[s][i];
            }
            if (same) {
                return w;
            }
        }
        throw new Finding(Due.NONE);
    }

    private int tear() {
        int was = kept == null ? 0 : 1;
        kept = null;
        return was;
    }

    private int count(int what) {
        needIn(what, 0, 3);
        int odds = 0;
        for (int v : road.odds) {
            odds += v;
        }
        return new int[] {road.ships.size(), road.on(-1).size(), tape.size(), odds}[what];
    }

    private int status(int which) {
        needIn(which, -1, 6);
        int all = 0;
        for (int n : found) {
            all += n;
        }
        return which == -1 ? all : found[which];
    }
}
