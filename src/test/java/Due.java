/** What the tests share: compares answers, feeds texts, and looks at a whole roadstead. */
final class Due {
    static final int BEYOND = -1000000001;
    static final int FULL = -1000000002;
    static final int KIND = -1000000003;
    static final int NONE = -1000000004;
    static final int STATE = -1000000005;
    static final int MISSING = -1000000006;
    static final int SIZE = -1000000007;

    private static int wrong = 0;
    private static int asked = 0;

    private Due() {
    }

    static void due(String call, long got, long want) {
        asked++;
        if (got != want) {
            wrong++;
            System.out.println(call + " answered " + got + ", due is " + want);
        }
    }

    static void same(String call, String got, String want) {
        asked++;
        if (!got.equals(want)) {
            wrong++;
            System.out.println(call + " left\n  " + got + "\ndue is\n  " + want);
        }
    }

    static void end() {
        System.out.println(wrong == 0 ? asked + " answers are as due" : wrong + " answers are not as due");
        if (wrong != 0) {
            System.exit(1);
        }
    }

    static void feed(AnchorString x, String text) {
        for (int i = 0; i < text.length(); i += 4) {
            int n = Math.min(4, text.length() - i);
            int bytes = 0;
            for (int k = 0; k < n; k++) {
                bytes = bytes << 8 | text.charAt(i + k) & 255;
            }
            x.feed(bytes, n);
        }
    }

    static int text(AnchorString x, String text) {
        feed(x, text);
        return x.text();
    }

    /** A roadstead told in a text, on a new object. */
    static AnchorString told(String... texts) {
        AnchorString x = new AnchorString();
        for (String text : texts) {
            int items = text(x, text);
            if (items < 0) {
                throw new IllegalStateException("fault " + items + " in " + text);
            }
        }
        return x;
    }

    /** All that can be seen of an object but status(): some 200 calls; it spoils ODDS. */
    static String look(AnchorString x) {
        StringBuilder b = new StringBuilder();
        int ships = x.count(0);
        b.append("ships ").append(ships).append(" hour ").append(x.now(0)).append(" wind ").append(x.now(1));
        b.append(" tape ").append(x.count(2));
        for (int s = 0; s < ships; s++) {
            b.append(" | ");
            for (int what = 0; what < 5; what++) {
                b.append(x.of(s, what)).append(' ');
            }
        }
        b.append(" | anchors");
        for (int a = 0; a < 6; a++) {
            b.append(' ').append(x.anchorOf(a, 0));
        }
        b.append(" | odds");
        for (int w = 0; w < 13; w++) {
            b.append(' ').append(x.odds(w, 0));
        }
        for (int s = 0; s < 4; s++) {
            b.append(" | sheet");
            for (int i = 0; i < 41; i++) {
                long v = x.write(s, i, 0);
                b.append(' ').append(v);
                if (v < -1000000000) {
                    break;
                }
            }
        }
        b.append(" | kept ").append(x.tear());
        return b.toString();
    }
}
