/** Promises 41 to 45, and that a call that answers a finding changes nothing but status(). */
public final class ImagesTest {
    public static void main(String[] args) {
        images();
        whatIsKept();
        latest();
        count();
        status();
        findings();
        Due.end();
    }

    private static AnchorString busy() {
        AnchorString x = Due.told("ship size 9 bears 70 worn 3 at 0; burning on 0; smuggler on 1; tall", "anchor 3 77; odds 4 8");
        x.hours(3, 2);
        return x;
    }

    private static void change(AnchorString x) {
        x.anchor(3, 1);
        x.anchor(0, 2);
        x.odds(4, 2);
        x.odds(12, 3);
        x.set(0, 1, 44);
        x.set(0, 2, 1);
        x.set(0, 3, 9);
        x.turn(1, 2);
        x.hang(3, 105);
        x.ship(2, 5);
        x.hour(9);
    }

    private static void images() {
        AnchorString x = new AnchorString();
        Due.due("42 undo()", x.undo(), Due.NONE);
        Due.due("43 tear()", x.tear(), 0);
        Due.due("41 image(), of no ships", x.image(), 1);
        x.ship(0, 5);
        Due.due("42 undo()", x.undo(), 0);
        Due.due("42 count(0)", x.count(0), 0);
        Due.due("43 tear()", x.tear(), 1);
        Due.due("43 tear()", x.tear(), 0);
        Due.due("42 undo()", x.undo(), Due.NONE);
        Due.due("45 status(3)", x.status(3), 2);
    }

    private static void whatIsKept() {
        String before = Due.look(busy());
        AnchorString x = busy();
        x.image();
        change(x);
        Due.due("42 undo()", x.undo(), 4);
        Due.same("42 all is back", Due.look(x).replace("kept 1", "kept 0"), before);
        x = busy();
        x.image();
        x.undo();
        change(x);
        x.undo();
        Due.same("42 what is kept stays as it was", Due.look(x).replace("kept 1", "kept 0"), before);
        x = busy();
        Due.feed(x, "shi");
        x.sheet(0, 8, 2);
        x.write(0, 0, 5);
        x.image();
        Due.feed(x, "p");
        x.write(0, 0, 6);
        x.sheet(1, 16, 1);
        x.hour(13);
        x.undo();
        Due.due("42 the tape isn't kept", x.count(2), 4);
        Due.due("42 sheets aren't kept", x.write(0, 0, 0), 6);
        Due.due("42 sheets aren't kept", x.write(1, 0, 0), 0);
        Due.due("42 undo() takes no finding back", x.status(-1), 1);
        Due.due("34 text()", x.text(), 1);
        Due.due("42 undo()", x.undo(), 4);
    }

    private static void latest() {
        AnchorString x = new AnchorString();
        x.image();
        x.ship(0, 5);
        x.image();
        x.ship(0, 6);
        Due.due("42 undo(), the latest", x.undo(), 1);
        Due.due("42 undo(), it stays", x.undo(), 1);
        x.ship(3, 7);
        Due.due("42 a new one is as at first", x.of(1, 1), 7);
        Due.due("43 tear()", x.tear(), 1);
        Due.due("42 undo(), nothing behind it", x.undo(), Due.NONE);
        Due.due("42 count(0)", x.count(0), 2);
    }

    private static void count() {
        AnchorString x = Due.told("ship; ship on 0; ship; odds 0 9");
        Due.feed(x, "abcde");
        Due.due("44 count(0)", x.count(0), 3);
        Due.due("44 count(1)", x.count(1), 2);
        Due.due("44 count(2)", x.count(2), 5);
        Due.due("44 count(3)", x.count(3), 21);
        Due.due("44 count(4)", x.count(4), Due.BEYOND);
        Due.due("44 count(-1)", x.count(-1), Due.BEYOND);
    }

    private static void status() {
        AnchorString x = new AnchorString();
        Due.due("45 status(-1)", x.status(-1), 0);
        Due.due("45 status(7)", x.status(7), Due.BEYOND);
        Due.due("45 status(-2)", x.status(-2), Due.BEYOND);
        Due.due("45 status(0)", x.status(0), 2);
        x.sheet(0, 8, -1);
        x.write(1, 0, 0);
        x.undo();
        x.undo();
        x.sheet(0, 8, 1);
        x.sheet(1, 16, 1);
        x.copy(0, 0, 1, 0, 1);
        x.ship(0, 5);
        x.cut(0);
        x.cut(0);
        x.cut(0);
        for (int k = 0; k < 35; k++) {
            x.feed(0, 4);
        }
        x.text();
        int[] want = {2, 5, 1, 2, 3, 1, 1};
        for (int which = 0; which < 7; which++) {
            Due.due("45 status(" + which + ")", x.status(which), want[which]);
        }
        Due.due("45 status(-1)", x.status(-1), 15);
        x.image();
        x.hour(-1);
        x.undo();
        Due.due("45 status(0)", x.status(0), 3);
    }

    private static void findings() {
        String before = Due.look(ready());
        for (int k = 0; k < 60; k++) {
            AnchorString x = ready();
            int said = x.status(-1);
            long answer = refused(x, k);
            if (answer == 0) {
                break;
            }
            Due.due("45 refused " + k + " is a finding", answer < -1000000000 ? 1 : 0, 1);
            Due.due("45 refused " + k + " counts", x.status(-1), said + 1);
            Due.due("45 refused " + k + " counts by its own", x.status((int) (-1000000001 - answer)), 1);
            Due.same("45 refused " + k, Due.look(x), before);
        }
    }

    private static AnchorString ready() {
        AnchorString x = busy();
        while (x.count(0) < 12) {
            x.ship(0, 5);
        }
        x.sheet(0, 8, 3);
        x.write(0, 1, 77);
        x.sheet(1, 16, 2);
        Due.feed(x, "ship");
        while (x.count(2) < 118) {
            x.feed(0, 1);
        }
        return x;
    }

    private static long refused(AnchorString x, int k) {
        switch (k) {
            case 0: return x.anchor(3, 10000);
            case 1: return x.anchorOf(9, 0);
            case 2: return x.ship(0, 5);
            case 3: return x.ship(0, 0);
            case 4: return x.of(12, 0);
            case 5: return x.set(0, 1, 0);
            case 6: return x.hang(0, 2);
            case 7: return x.hang(0, 0);
            case 8: return x.turn(0, 6);
            case 9: return x.as(0, 5);
            case 10: return x.as(0, 7);
            case 11: return x.odds(4, 100);
            case 12: return x.hour(13);
            case 13: return x.hours(101, 3);
            case 14: return x.now(5);
            case 15: return x.would(13);
            case 16: return x.when(13);
            case 17: return x.when(0);
            case 18: return x.who(0);
            case 19: return x.who(-1);
            case 20: return x.ahead(12);
            case 21: return x.place(0, 13);
            case 22: return x.place(0, 12);
            case 23: return x.best(12);
            case 24: return x.cut(3);
            case 25: return x.cut(12);
            case 26: return x.canCut(3, 3);
            case 27: return x.canCut(0, 13);
            case 28: return x.bears(3, 3);
            case 29: return x.bears(0, 13);
            case 30: return x.weakest(13);
            case 31: return x.kind(12);
            case 32: return x.feed(5, 3);
            case 33: return x.feed(5, 0);
            case 34: return x.sheet(0, 9, 3);
            case 35: return x.sheet(0, 8, -3);
            case 36: return x.sheet(0, 0, 41);
            case 37: return x.write(0, 3, 3);
            case 38: return x.write(2, 0, 3);
            case 39: return x.copy(0, 0, 1, 0, 1);
            case 40: return x.copy(0, 0, 0, 1, 3);
            case 41: return x.copy(0, 0, 2, 1, 3);
            case 42: return x.lays(2);
            case 43: return x.lays(4);
            case 44: return x.dawn(2);
            case 45: return x.read(2);
            case 46: return x.read(0);
            case 47: return x.undo();
            case 48: return x.count(4);
            case 49: return x.status(7);
            default: return 0;
        }
    }
}
