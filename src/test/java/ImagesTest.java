/** Promises 41 to 45. */
public final class ImagesTest {
    public static void main(String[] args) {
        images();
        whatIsKept();
        latest();
        count();
        status();
        Due.end();
    }

    private static AnchorString busy() {
        AnchorString x = Due.told("ship size 9 bears 70 worn 3 at 0; burning on 0; smuggler on 1; tall", "anchor 3 77; odds 4 8");
        x.hours(3, 2);
        return x;
    }

    private static void change(AnchorString x) {
        x.anchor(3, 1);
        x.anchor(0, 2);
        x.odds(4, 2);
        x.odds(12, 3);
        x.set(0, 1, 44);
        x.set(0, 2, 1);
        x.set(0, 3, 9);
        x.turn(1, 2);
        x.hang(3, 105);
        x.ship(2, 5);
        x.hour(9);
    }

    private static void images() {
        AnchorString x = new AnchorString();
        Due.due("42 undo()", x.undo(), Due.NONE);
        Due.due("43 tear()", x.tear(), 0);
        Due.due("41 image(), of no ships", x.image(), 1);
        x.ship(0, 5);
        Due.due("42 undo()", x.undo(), 0);
        Due.due("42 count(0)", x.count(0), 0);
        Due.due("43 tear()", x.tear(), 1);
        Due.due("43 tear()", x.tear(), 0);
        Due.due("42 undo()", x.undo(), Due.NONE);
        Due.due("45 status(3)", x.status(3), 2);
    }

    private static void whatIsKept() {
        String before = Due.state(busy());
        AnchorString x = busy();
        x.image();
        change(x);
        Due.due("42 undo()", x.undo(), 4);
        Due.same("42 all is back", Due.state(x), before);
        x = busy();
        x.image();
        x.undo();
        change(x);
        x.undo();
        Due.same("42 what is kept stays as it was", Due.state(x), before);
        x = busy();
        Due.feed(x, "shi");
        x.sheet(0, 8, 2);
        x.write(0, 0, 5);
        x.image();
        Due.feed(x, "p");
        x.write(0, 0, 6);
        x.sheet(1, 16, 1);
        x.hour(13);
        x.undo();
        Due.due("42 the tape isn't kept", x.count(2), 4);
        Due.due("42 sheets aren't kept", x.write(0, 0, 0), 6);
        Due.due("42 sheets aren't kept", x.write(1, 0, 0), 0);
        Due.due("42 undo() takes no finding back", x.status(-1), 1);
        Due.due("34 text()", x.text(), 1);
        Due.due("42 undo()", x.undo(), 4);
    }

    private static void latest() {
        AnchorString x = new AnchorString();
        x.image();
        x.ship(0, 5);
        x.image();
        x.ship(0, 6);
        Due.due("42 undo(), the latest", x.undo(), 1);
        Due.due("42 undo(), it stays", x.undo(), 1);
        x.ship(3, 7);
        Due.due("42 a new one is as at first", x.of(1, 1), 7);
        Due.due("43 tear()", x.tear(), 1);
        Due.due("42 undo(), nothing behind it", x.undo(), Due.NONE);
        Due.due("42 count(0)", x.count(0), 2);
    }

    private static void count() {
        AnchorString x = Due.told("ship; ship on 0; ship; odds 0 9");
        Due.feed(x, "abcde");
        Due.due("44 count(0)", x.count(0), 3);
        Due.due("44 count(1)", x.count(1), 2);
        Due.due("44 count(2)", x.count(2), 5);
        Due.due("44 count(3)", x.count(3), 21);
        Due.due("44 count(4)", x.count(4), Due.BEYOND);
        Due.due("44 count(-1)", x.count(-1), Due.BEYOND);
    }

    private static void status() {
        AnchorString x = new AnchorString();
        Due.due("45 status(-1)", x.status(-1), 0);
        Due.due("45 status(7)", x.status(7), Due.BEYOND);
        Due.due("45 status(-2)", x.status(-2), Due.BEYOND);
        Due.due("45 status(0)", x.status(0), 2);
        x.sheet(0, 8, -1);
        x.write(1, 0, 0);
        x.undo();
        x.undo();
        x.sheet(0, 8, 1);
        x.sheet(1, 16, 1);
        x.copy(0, 0, 1, 0, 1);
        x.ship(0, 5);
        x.cut(0);
        x.cut(0);
        x.cut(0);
        for (int k = 0; k < 35; k++) {
            x.feed(0, 4);
        }
        x.text();
        int[] want = {2, 5, 1, 2, 3, 1, 1};
        for (int which = 0; which < 7; which++) {
            Due.due("45 status(" + which + ")", x.status(which), want[which]);
        }
        Due.due("45 status(-1)", x.status(-1), 15);
        x.image();
        x.hour(-1);
        x.undo();
        Due.due("45 status(0)", x.status(0), 3);
    }
}
