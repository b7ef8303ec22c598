/** Boundary cases of promises 41 to 45; those of refused calls stand in RefusalsTest. */
public final class ImagesEdgesTest {
    public static void main(String[] args) {
        imageOfNothing();
        imageOfAll();
        imageStays();
        imageKeepsTheLatest();
        undoTakesHoursBack();
        undoLeavesTapeAndSheets();
        undoTakesNoFindingBack();
        tear();
        count();
        statusOfEach();
        statusOfWrong();
        statusOfLongs();
        Due.end();
    }

    /** "All that section 1 tells .. is kept: 1."; "how many SHIPS": none. */
    private static void imageOfNothing() {
        AnchorString x = new AnchorString();
        String before = Due.state(x);
        Due.due("41 image()", x.image(), 1);
        Due.text(x, "ship at 0;odds 3 4;anchor 5 6");
        x.hour(5);
        Due.due("42 undo(), no ships", x.undo(), 0);
        Due.same("42 all as at first", Due.state(x), before);
    }

    private static AnchorString twelve() {
        AnchorString x = new AnchorString();
        for (int s = 0; s < 12; s++) {
            x.ship(s % 6, 99 - s);
            x.set(s, 2, 9999 - s);
            x.set(s, 3, 99 - s);
            x.hang(s, s < 6 ? 100 + s : s - 6);
        }
        for (int a = 0; a < 6; a++) {
            x.anchor(a, 9999 - a);
        }
        for (int w = 0; w < 13; w++) {
            x.odds(w, 99 - w);
        }
        x.hours(7, 3);
        return x;
    }

    private static void imageOfAll() {
        AnchorString x = twelve();
        String before = Due.state(x);
        x.image();
        for (int s = 0; s < 12; s++) {
            x.turn(s, 0);
            x.set(s, 1, 1);
            x.set(s, 2, 0);
            x.set(s, 3, 0);
            x.hang(s, -1);
        }
        for (int a = 0; a < 6; a++) {
            x.anchor(a, 0);
        }
        for (int w = 0; w < 13; w++) {
            x.odds(w, 0);
        }
        x.hour(12);
        Due.due("42 undo(), twelve", x.undo(), 12);
        Due.same("42 all is back", Due.state(x), before);
    }

    /** "It becomes what was kept latest (which stays)" */
    private static void imageStays() {
        AnchorString x = Due.told("ship at 0");
        x.image();
        for (int k = 0; k < 3; k++) {
            x.set(0, 2, 7);
            x.hang(0, -1);
            x.ship(0, 5);
            Due.due("42 undo(), time " + k, x.undo(), 1);
            Due.due("42 bears", x.of(0, 2), 50);
            Due.due("42 hangs", x.of(0, 4), 100);
            Due.due("42 no second ship", x.of(1, 0), Due.BEYOND);
        }
    }

    private static void imageKeepsTheLatest() {
        AnchorString x = new AnchorString();
        for (int k = 0; k <= 12; k++) {
            Due.due("41 image()", x.image(), 1);
            if (k < 12) {
                x.ship(0, 10);
            }
        }
        Due.due("42 the latest", x.undo(), 12);
        Due.due("43 one is kept", x.tear(), 1);
        Due.due("43 and no other", x.tear(), 0);
        Due.due("42 nothing is", x.undo(), Due.NONE);
    }

    private static void undoTakesHoursBack() {
        AnchorString x = Due.told("ship bears 20 at 0");
        x.image();
        for (int k = 0; k < 99; k++) {
            x.hours(100, 3);
        }
        x.hours(99, 12);
        Due.due("11 in hour 9999", x.hour(0), Due.STATE);
        x.undo();
        Due.due("42 HOUR", x.now(0), 0);
        Due.due("42 WIND", x.now(1), 0);
        Due.due("42 WORN", x.now(4), 0);
        Due.due("42 it hangs", x.of(0, 4), 100);
        Due.due("11 hours pass again", x.hour(0), 0);
        x.hours(100, 1);
        x.image();
        x.hour(2);
        x.undo();
        Due.due("42 HOUR of the latest", x.now(0), 101);
        Due.due("42 WIND of the latest", x.now(1), 1);
    }

    /** "(THE TAPE not)", nor sheets. */
    private static void undoLeavesTapeAndSheets() {
        AnchorString x = new AnchorString();
        Due.feed(x, "sh");
        x.sheet(0, 8, 1);
        x.image();
        Due.feed(x, "ip");
        x.write(0, 0, 9);
        x.sheet(3, 64, 2);
        x.undo();
        Due.due("42 the tape", x.count(2), 4);
        Due.due("42 sheet 0", x.write(0, 0, 0), 9);
        Due.due("42 sheet 3", x.write(3, 1, 0), 0);
        Due.due("42 what is on the tape", x.text(), 1);
        x.undo();
        Due.due("42 the tape stays empty", x.count(2), 0);
    }

    /** "(undo() takes none back)" */
    private static void undoTakesNoFindingBack() {
        AnchorString x = new AnchorString();
        x.hour(13);
        x.image();
        x.hour(13);
        x.cut(0);
        x.undo();
        Due.due("45 all", x.status(-1), 3);
        Due.due("45 BEYOND", x.status(0), 3);
        x.tear();
        x.undo();
        Due.due("45 NONE", x.status(3), 1);
        Due.due("45 all", x.status(-1), 4);
    }

    /** "Nothing is kept: 1 if something was, else 0." */
    private static void tear() {
        AnchorString x = Due.told("ship");
        Due.due("43 nothing yet", x.tear(), 0);
        x.image();
        x.ship(0, 5);
        Due.due("43 something", x.tear(), 1);
        Due.due("43 nothing more", x.tear(), 0);
        Due.due("42 undo()", x.undo(), Due.NONE);
        Due.due("43 what there is stays", x.count(0), 2);
        x.image();
        x.undo();
        Due.due("43 kept behind an undo", x.tear(), 1);
        Due.due("45 status(-1)", x.status(-1), 1);
    }

    /** "0 SHIPS, 1 those ADRIFT themselves, 2 bytes of THE TAPE, 3 ODDS of all WINDS together." */
    private static void count() {
        AnchorString x = new AnchorString();
        int[] first = {0, 0, 0, 13};
        for (int what = 0; what < 4; what++) {
            Due.due("44 count(" + what + "), at first", x.count(what), first[what]);
        }
        x = Due.ships(12, 0, 10);
        for (int w = 0; w < 13; w++) {
            x.odds(w, 99);
        }
        for (int k = 0; k < 30; k++) {
            x.feed(0, 4);
        }
        int[] most = {12, 12, 120, 1287};
        for (int what = 0; what < 4; what++) {
            Due.due("44 count(" + what + "), most", x.count(what), most[what]);
        }
        for (int s = 0; s < 12; s++) {
            x.hang(s, s == 0 ? 100 : s - 1);
        }
        x.hang(5, -1);
        Due.due("44 themselves", x.count(1), 1);
        x.hang(5, 100);
        Due.due("44 none", x.count(1), 0);
        for (int w = 0; w < 13; w++) {
            x.odds(w, 0);
        }
        Due.due("44 no odds", x.count(3), 0);
        Due.due("44 count(-1)", x.count(-1), Due.BEYOND);
        Due.due("44 count(4)", x.count(4), Due.BEYOND);
    }

    /** "which -1: all, 0 to 6: BEYOND to SIZE" */
    private static void statusOfEach() {
        AnchorString x = Due.ships(12, 0, 10);
        int all = 0;
        for (int f = 0; f < 7; f++) {
            for (int k = 0; k <= f; k++) {
                Due.due("45 finding " + f, refused(x, f), -1000000001 - f);
                all++;
                Due.due("45 status(" + f + ")", x.status(f), k + 1);
                Due.due("45 status(-1)", x.status(-1), all);
            }
        }
        for (int f = 0; f < 7; f++) {
            Due.due("45 status(" + f + "), its own", x.status(f), f + 1);
        }
    }

    private static int refused(AnchorString x, int f) {
        switch (f) {
            case 0: return x.now(5);
            case 1: return x.ship(0, 1);
            case 2: return x.as(0, 3);
            case 3: return x.matters();
            case 4: return x.canCut(0, 0);
            case 5: return x.dawn(2);
            default: return x.sheet(2, 0, -1);
        }
    }

    /** "BEYOND (counted from then on): another one." */
    private static void statusOfWrong() {
        AnchorString x = new AnchorString();
        Due.due("45 status(7)", x.status(7), Due.BEYOND);
        Due.due("45 it counts", x.status(-1), 1);
        Due.due("45 status(-2)", x.status(-2), Due.BEYOND);
        Due.due("45 it counts", x.status(0), 2);
        Due.due("45 asking doesn't", x.status(0), 2);
        Due.due("45 asking for all doesn't", x.status(-1), 2);
        Due.due("45 the last that is fine", x.status(6), 0);
    }

    private static void statusOfLongs() {
        AnchorString x = new AnchorString();
        x.write(4, 0, 0);
        x.write(0, 0, 0);
        Due.due("45 BEYOND", x.status(0), 1);
        Due.due("45 MISSING", x.status(5), 1);
        Due.due("45 all", x.status(-1), 2);
        Due.text(x, "boat");
        Due.due("45 a FAULT is none", x.status(-1), 2);
    }
}
