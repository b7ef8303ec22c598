import java.util.Random;

/** Random runs of all calls, each answer against that of the Model; the seeds are fixed. */
public final class ModelTest {
    private static final String[] CALLS = {
        "anchor 2", "anchorOf 2", "ship 2", "of 2", "set 3", "hang 2", "turn 2", "as 2", "odds 2", "hour 1", "hours 2",
        "adrift 0", "lost 0", "now 1", "would 1", "holds 0", "when 1", "who 1", "sure 0", "free 0", "ahead 1", "place 2",
        "best 1", "cut 1", "canCut 2", "matters 0", "bears 2", "weakest 1", "kind 1", "stronger 0", "feed 2", "wipe 0",
        "text 0", "sheet 3", "write 3", "copy 5", "lays 1", "dawn 1", "read 1", "image 0", "undo 0", "tear 0", "count 1",
        "status 1"};
    private static final String[] WORDS = {"ship", "tall", "towed", "dragging", "burning", "smuggler", "size", "bears",
        "worn", "on", "at", "anchor", "hang", "odds", ";", ";", " ", "", "0", "1", "2", "5", "6", "12", "13", "99", "100",
        "9999", "10000", "boat", "S", "\t", "00000000001", "99999999999999"};

    private final Random random;
    private final AnchorString x = new AnchorString();
    private final Model model = new Model();
    private final StringBuilder run = new StringBuilder();
    private int calls = 0;
    private int ships = 0;
    private int most = 12;

    private ModelTest(long seed) {
        random = new Random(seed);
    }

    public static void main(String[] args) {
        int runs = Integer.getInteger("runs", 400);
        long first = Long.getLong("seed", 1);
        for (long seed = first; seed < first + runs; seed++) {
            if (!new ModelTest(seed).go(seed)) {
                System.exit(1);
            }
        }
        System.out.println(runs + " runs are as due");
    }

    private boolean go(long seed) {
        int shape = random.nextInt(4);
        most = 2 + random.nextInt(11);
        while (calls < 475) {
            boolean fine = random.nextInt(60) == 0 ? tellText() : shape == 0 ? any()
                    : random.nextInt(20) == 0 ? scene() : likely(shape);
            if (!fine) {
                System.out.println("seed " + seed + ":\n" + run);
                return false;
            }
        }
        return true;
    }

    private boolean any() {
        String[] call = CALLS[random.nextInt(CALLS.length)].split(" ");
        long[] a = new long[Integer.parseInt(call[1])];
        for (int i = 0; i < a.length; i++) {
            a[i] = wild();
        }
        return ask(call[0], a);
    }

    private int wild() {
        switch (random.nextInt(8)) {
            case 0: return random.nextInt();
            case 1: return random.nextBoolean() ? Integer.MAX_VALUE : Integer.MIN_VALUE;
            case 2: return 98 + random.nextInt(10);
            case 3: return random.nextInt(10002) - 1;
            default: return random.nextInt(16) - 2;
        }
    }

    /** A call that mostly can be done; the shape says how much is hung and how strong all is. */
    private boolean likely(int shape) {
        if (ships < most && random.nextInt(4) == 0) {
            return ask("ship", kind(), 1 + random.nextInt(shape == 1 ? 20 : 99));
        }
        if (ships > 0 && random.nextInt(4) == 0) {
            return ask("hang", aShip(), random.nextInt(6) == 0 ? -1 : random.nextInt(3) == 0 ? 100 + random.nextInt(6) : aShip());
        }
        if (random.nextInt(12) == 0) {
            return random.nextBoolean() ? ask("set", aShip(), 2, random.nextInt(shape == 3 ? 10000 : 300))
                    : ask("anchor", random.nextInt(6), random.nextInt(shape == 3 ? 10000 : 400));
        }
        String[] call = CALLS[random.nextInt(CALLS.length)].split(" ");
        if (call[0].equals("ship") && ships >= most && ships < 12) {
            return ask("undo");
        }
        return ask(call[0], fitting(call[0]));
    }

    /** Calls that say most one behind the other. */
    private boolean scene() {
        int w = wind();
        int s = aShip();
        int sheet = aSheet();
        switch (random.nextInt(4)) {
            case 0:
                return ask("hour", w) && ask("place", s, w) && ask("best", s) && ask("canCut", s, w) && ask("kind", s)
                        && ask("place", aShip(), Math.max(0, w - 2)) && ask("holds") && ask("stronger");
            case 1:
                return ask("sheet", sheet, 8, 1 + random.nextInt(14)) && ask("image") && ask("hour", w) && ask("dawn", sheet)
                        && ask("undo") && ask("read", sheet) && ask("write", sheet, random.nextInt(4), -1) && ask("read", sheet);
            case 2:
                return ask("sheet", 0, 16, 9) && ask("sheet", 1, 16, 7) && ask("dawn", 0) && ask("write", 0, 3, random.nextLong())
                        && ask("copy", 0, random.nextInt(5), random.nextInt(2), random.nextInt(5), random.nextInt(6))
                        && ask("write", 0, random.nextInt(9), 0) && ask("write", 1, random.nextInt(7), 0) && ask("lays", 1);
            default:
                return ask("when", w) && ask("who", w) && ask("bears", s, w) && ask("weakest", w) && ask("would", w)
                        && ask("hours", 1 + random.nextInt(30), w) && ask("adrift") && ask("lost") && ask("now", 4);
        }
    }

    private int aShip() {
        return random.nextInt(40) == 0 ? ships : random.nextInt(Math.max(1, ships));
    }

    private int kind() {
        return random.nextInt(60) == 0 ? 6 : random.nextInt(6);
    }

    private int wind() {
        return random.nextInt(40) == 0 ? 13 : random.nextInt(13);
    }

    private int aSheet() {
        return random.nextInt(40) == 0 ? 4 : random.nextInt(4);
    }

    private long[] fitting(String name) {
        switch (name) {
            case "anchor": return row(random.nextInt(7), random.nextInt(400));
            case "anchorOf": return row(random.nextInt(6), random.nextInt(5));
            case "ship": return row(kind(), random.nextInt(101));
            case "of": return row(aShip(), random.nextInt(11));
            case "set": return row(aShip(), random.nextInt(5), random.nextInt(100));
            case "hang": return row(aShip(), random.nextInt(108) - 2);
            case "turn":
            case "as": return row(aShip(), kind());
            case "odds": return row(wind(), random.nextInt(101));
            case "hours": return row(random.nextInt(12) == 0 ? 100 : random.nextInt(4), wind());
            case "hour":
            case "would":
            case "when":
            case "who":
            case "weakest": return row(wind());
            case "now": return row(random.nextInt(6));
            case "ahead":
            case "best":
            case "cut":
            case "kind": return row(aShip());
            case "place":
            case "canCut":
            case "bears": return row(aShip(), wind());
            case "feed": return row(random.nextInt(), random.nextInt(6));
            case "sheet": return row(aSheet(), new int[] {0, 8, 16, 64, 64, 9}[random.nextInt(6)], random.nextInt(43) - 1);
            case "write": return row(aSheet(), random.nextInt(14), random.nextInt(4) == 0 ? random.nextLong() : random.nextInt(14) - 1);
            case "copy": return row(aSheet(), random.nextInt(8), aSheet(), random.nextInt(8), random.nextInt(12) - 1);
            case "lays":
            case "dawn":
            case "read": return row(aSheet());
            case "count": return row(random.nextInt(5));
            case "status": return row(random.nextInt(10) - 2);
            default: return row();
        }
    }

    private static long[] row(long... v) {
        return v;
    }

    private boolean tellText() {
        StringBuilder b = new StringBuilder();
        int items = 1 + random.nextInt(5);
        for (int k = 0; k < items; k++) {
            b.append(k == 0 ? "" : random.nextBoolean() ? ";" : " ; ").append(item());
        }
        if (random.nextInt(6) == 0) {
            b.insert(random.nextInt(b.length() + 1), WORDS[random.nextInt(WORDS.length)]);
        }
        if (random.nextInt(6) == 0) {
            b.setLength(random.nextInt(b.length() + 1));
        }
        boolean fine = ask("wipe");
        for (int i = 0; i < b.length() && i < 120 && fine; i += 4) {
            int n = Math.min(4, b.length() - i);
            int bytes = 0;
            for (int k = 0; k < n; k++) {
                bytes = bytes << 8 | b.charAt(i + k);
            }
            fine = ask("feed", bytes, n);
        }
        return fine && ask("text");
    }

    private String item() {
        switch (random.nextInt(ships < 8 || random.nextInt(20) == 0 ? 12 : 4)) {
            case 0: return "anchor " + random.nextInt(6) + " " + random.nextInt(500);
            case 1: return "odds " + wind() + " " + random.nextInt(100);
            case 2: return "hang " + aShip() + " on " + aShip();
            case 3: return "hang " + aShip() + " at " + random.nextInt(6);
            case 4:
                if (random.nextInt(3) > 0) {
                    return "ship";
                }
                StringBuilder b = new StringBuilder();
                for (int k = random.nextInt(6); k >= 0; k--) {
                    b.append(WORDS[random.nextInt(WORDS.length)]).append(random.nextBoolean() ? " " : "");
                }
                return b.toString();
            default:
                return WORDS[random.nextInt(6)] + (random.nextBoolean() ? " size " + (1 + random.nextInt(99)) : "")
                    + (random.nextBoolean() ? " bears " + random.nextInt(300) : "")
                    + (random.nextBoolean() ? "  worn" + random.nextInt(100) : "")
                    + (random.nextBoolean() ? " on " + aShip() : random.nextBoolean() ? " at " + random.nextInt(6) : "");
        }
    }

    private boolean ask(String name, long... a) {
        calls++;
        run.append(name).append(java.util.Arrays.toString(a));
        long want = model.call(name, a);
        long got = real(name, a);
        run.append(" ").append(got).append('\n');
        ships = (int) model.call("count", new long[] {0});
        if (got != want) {
            run.append("due is ").append(want).append('\n');
        }
        return got == want;
    }

    private long real(String name, long[] a) {
        int p = a.length > 0 ? (int) a[0] : 0;
        int q = a.length > 1 ? (int) a[1] : 0;
        int r = a.length > 2 ? (int) a[2] : 0;
        switch (name) {
            case "anchor": return x.anchor(p, q);
            case "anchorOf": return x.anchorOf(p, q);
            case "ship": return x.ship(p, q);
            case "of": return x.of(p, q);
            case "set": return x.set(p, q, r);
            case "hang": return x.hang(p, q);
            case "turn": return x.turn(p, q);
            case "as": return x.as(p, q);
            case "odds": return x.odds(p, q);
            case "hour": return x.hour(p);
            case "hours": return x.hours(p, q);
            case "adrift": return x.adrift();
            case "lost": return x.lost();
            case "now": return x.now(p);
            case "would": return x.would(p);
            case "holds": return x.holds();
            case "when": return x.when(p);
            case "who": return x.who(p);
            case "sure": return x.sure();
            case "free": return x.free();
            case "ahead": return x.ahead(p);
            case "place": return x.place(p, q);
            case "best": return x.best(p);
            case "cut": return x.cut(p);
            case "canCut": return x.canCut(p, q);
            default: return realToo(name, p, q, r, a);
        }
    }

    private long realToo(String name, int p, int q, int r, long[] a) {
        switch (name) {
            case "matters": return x.matters();
            case "bears": return x.bears(p, q);
            case "weakest": return x.weakest(p);
            case "kind": return x.kind(p);
            case "stronger": return x.stronger();
            case "feed": return x.feed(p, q);
            case "wipe": return x.wipe();
            case "text": return x.text();
            case "sheet": return x.sheet(p, q, r);
            case "write": return x.write(p, q, a[2]);
            case "copy": return x.copy(p, q, r, (int) a[3], (int) a[4]);
            case "lays": return x.lays(p);
            case "dawn": return x.dawn(p);
            case "read": return x.read(p);
            case "image": return x.image();
            case "undo": return x.undo();
            case "tear": return x.tear();
            case "count": return x.count(p);
            case "status": return x.status(p);
            default: throw new IllegalStateException(name);
        }
    }
}
