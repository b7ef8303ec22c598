/** Looks at calls on one roadstead that must change nothing: refused ones, and questions. */
final class Refused {
    interface Maker {
        AnchorString make();
    }

    interface Act {
        long on(AnchorString x);
    }

    private final Maker maker;
    private final String before;

    Refused(Maker maker) {
        this.maker = maker;
        this.before = Due.look(maker.make());
    }

    /** The call answers this finding, which counts once, and changes nothing else. */
    void due(String call, int finding, Act act) {
        look(call, finding, -1000000001 - finding, act);
    }

    void beyond(String call, Act act) {
        due(call, Due.BEYOND, act);
    }

    /** The call answers this, which is no finding, and changes nothing at all. */
    void asked(String call, long want, Act act) {
        look(call, want, -1, act);
    }

    private void look(String call, long want, int counted, Act act) {
        AnchorString x = maker.make();
        int all = x.status(-1);
        int[] said = new int[7];
        for (int f = 0; f < 7; f++) {
            said[f] = x.status(f);
        }
        Due.due(call, act.on(x), want);
        Due.due(call + ", status(-1)", x.status(-1), counted < 0 ? all : all + 1);
        for (int f = 0; f < 7; f++) {
            Due.due(call + ", status(" + f + ")", x.status(f), f == counted ? said[f] + 1 : said[f]);
        }
        Due.same(call, Due.look(x), before);
    }
}
