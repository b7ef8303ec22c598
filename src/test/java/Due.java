/** What the tests share: compares answers, feeds texts, and looks at a whole roadstead. */
final class Due {
    static final int BEYOND = -1000000001;
    static final int FULL = -1000000002;
    static final int KIND = -1000000003;
    static final int NONE = -1000000004;
    static final int STATE = -1000000005;
    static final int MISSING = -1000000006;
    static final int SIZE = -1000000007;

    private static int wrong = 0;
    private static int asked = 0;

    private Due() {
    }

    static void due(String call, long got, long want) {
        asked++;
        if (got != want) {
            wrong++;
            System.out.println(call + " answered " + got + ", due is " + want);
        }
    }

    static void same(String call, String got, String want) {
        asked++;
        if (!got.equals(want)) {
            wrong++;
            System.out.println(call + " left\n  " + got + "\ndue is\n  " + want);
        }
    }

    static void end() {
        System.out.println(wrong == 0 ? asked + " answers are as due" : wrong + " answers are not as due");
        if (wrong != 0) {
            System.exit(1);
        }
    }

    static void feed(AnchorString x, String text) {
        for (int i = 0; i < text.length(); i += 4) {
            int n = Math.min(4, text.length() - i);
            int bytes = 0;
            for (int k = 0; k < n; k++) {
                bytes = bytes << 8 | text.charAt(i + k) & 255;
            }
            x.feed(bytes, n);
        }
    }

    static int text(AnchorString x, String text) {
        feed(x, text);
        return x.text();
    }

    /** A roadstead told in a text, on a new object. */
    static AnchorString told(String... texts) {
        AnchorString x = new AnchorString();
        for (String text : texts) {
            int items = text(x, text);
            if (items < 0) {
                throw new IllegalStateException("fault " + items + " in " + text);
            }
        }
        return x;
    }

    /** So many ships of a kind and a size, all adrift. */
    static AnchorString ships(int n, int kind, int size) {
        AnchorString x = new AnchorString();
        for (int s = 0; s < n; s++) {
            x.ship(kind, size);
        }
        return x;
    }

    /** What section 1 of the document tells, and how long the tape is: at most 96 calls, which change nothing. */
    static String state(AnchorString x) {
        StringBuilder b = new StringBuilder();
        int ships = x.count(0);
        b.append("ships ").append(ships).append(" hour ").append(x.now(0)).append(" wind ").append(x.now(1));
        b.append(" tape ").append(x.count(2));
        for (int s = 0; s < ships; s++) {
            b.append(" | ");
            for (int what = 0; what < 5; what++) {
                b.append(x.of(s, what)).append(' ');
            }
        }
        b.append(" | anchors");
        for (int a = 0; a < 6; a++) {
            b.append(' ').append(x.anchorOf(a, 0));
        }
        b.append(" | odds");
        for (int w = 0; w < 13; w++) {
            int v = x.odds(w, 0);
            x.odds(w, v);
            b.append(' ').append(v);
        }
        return b.toString();
    }

    /** All numbers of a sheet, which stay, and the finding behind the last one. */
    static String row(AnchorString x, int s) {
        StringBuilder b = new StringBuilder();
        for (int i = 0; i < 41; i++) {
            long v = x.write(s, i, 0);
            if (v < -1000000000) {
                return b.append(v).toString();
            }
            x.write(s, i, v);
            b.append(v).append(' ');
        }
        return b.toString();
    }

    /**
     * All that can be seen of an object but status(), which it spoils: state and
     * sheets, what is on the tape by what text() makes of it, and the image by
     * what undo() brings back.
     */
    static String look(AnchorString x) {
        StringBuilder b = new StringBuilder(state(x));
        for (int s = 0; s < 4; s++) {
            b.append("\n  sheet ").append(row(x, s));
        }
        b.append("\n  text ").append(x.text()).append(' ').append(state(x));
        b.append("\n  undo ").append(x.undo()).append(' ').append(state(x));
        return b.append("\n  kept ").append(x.tear()).toString();
    }
}
