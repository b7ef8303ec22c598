/** Promises 11 to 20. */
public final class WindsTest {
    public static void main(String[] args) {
        hour();
        orderOfParting();
        draggingAnchors();
        wear();
        lastHour();
        hours();
        adriftAndLost();
        now();
        would();
        holds();
        when();
        who();
        sure();
        Due.end();
    }

    private static void hour() {
        AnchorString x = Due.told("ship at 0");
        Due.due("11 hour(10), as much as it bears", x.hour(10), 0);
        Due.due("11 of(0, 3)", x.of(0, 3), 1);
        Due.due("11 now(0)", x.now(0), 1);
        Due.due("11 now(1)", x.now(1), 10);
        Due.due("11 hour(-1)", x.hour(-1), Due.BEYOND);
        Due.due("11 hour(13)", x.hour(13), Due.BEYOND);
        Due.due("11 now(0)", x.now(0), 1);
        Due.due("11 now(1)", x.now(1), 10);
        Due.due("11 hour(10), worn", x.hour(10), 1);
        Due.due("11 of(0, 4)", x.of(0, 4), -1);
        Due.due("11 hour(12), adrift already", x.hour(12), 0);
        Due.due("11 of(0, 3), adrift", x.of(0, 3), 1);
        Due.due("11 now(0)", x.now(0), 3);
    }

    private static void orderOfParting() {
        AnchorString x = Due.told("ship bears 15 at 0; ship bears 5 on 0");
        Due.due("11 hour(2), the first parts first", x.hour(2), 2);
        Due.due("11 adrift()", x.adrift(), 3);
        x = Due.told("ship bears 5; ship bears 15 at 0; hang 0 on 1");
        Due.due("11 hour(2), and takes its strain off", x.hour(2), 1);
        Due.due("11 adrift()", x.adrift(), 1);
        x = Due.told("ship bears 25 at 0; ship bears 20 on 0; ship bears 10 on 1");
        Due.due("11 hour(2), strain of all behind", x.hour(2), 1);
        Due.due("11 adrift()", x.adrift(), 1);
        Due.due("11 of(1, 4)", x.of(1, 4), 0);
        x.hour(3);
        Due.due("11 what hangs on one adrift parts too", x.adrift(), 7);
        x = Due.told("ship bears 50 at 0; ship bears 10 on 0; burning size 1 bears 9 on 1; ship bears 0 on 2");
        Due.due("11 hour(2), back to the first each time", x.hour(2), 3);
        Due.due("11 adrift()", x.adrift(), 14);
    }

    private static void draggingAnchors() {
        AnchorString x = Due.told("anchor 0 100; ship bears 999 at 0; ship bears 999 at 0; ship bears 999 on 0; tall at 1");
        x.set(2, 1, 20);
        Due.due("11 hour(5), load as much as it holds", x.hour(5), 0);
        x.set(0, 1, 11);
        Due.due("11 hour(5), load above it", x.hour(5), 2);
        Due.due("11 adrift(), those on it themselves", x.adrift(), 3);
        Due.due("11 of(2, 4)", x.of(2, 4), 0);
        Due.due("11 of(3, 4)", x.of(3, 4), 101);
        x = Due.told("anchor 3 30; ship bears 30 at 3; ship bears 9 at 3; ship bears 9 on 0");
        Due.due("11 hour(2), chains part ahead of anchors", x.hour(2), 2);
        Due.due("11 adrift()", x.adrift(), 6);
        x = Due.told("anchor 0 0; anchor 5 0; ship at 0; ship at 5; ship at 4");
        Due.due("11 hour(0), no load", x.hour(0), 0);
        Due.due("11 hour(1), several anchors", x.hour(1), 2);
        Due.due("11 adrift()", x.adrift(), 3);
    }

    private static void wear() {
        AnchorString x = Due.told("ship bears 20 at 0; ship bears 21 at 1; ship bears 19 at 2; smuggler size 10 bears 43 at 3",
                "ship; ship bears 11 on 4; ship bears 9999 worn 99 at 4");
        x.hour(2);
        int[] worn = {0, 0, 1, 0, 0, 1, 99};
        for (int s = 0; s < 7; s++) {
            Due.due("11 of(" + s + ", 3)", x.of(s, 3), worn[s]);
        }
        x.set(6, 2, 199);
        x.hour(4);
        Due.due("11 smuggler, no more than half", x.of(3, 3), 0);
        Due.due("11 worn is 99 at most, strain 20 of 100", x.of(6, 3), 99);
        x.set(6, 2, 119);
        x.set(3, 2, 38);
        x.hour(4);
        Due.due("11 worn is 99 at most, strain 20 of 20", x.of(6, 3), 99);
        Due.due("11 smuggler, strain 10 of 19", x.of(3, 3), 1);
        x = Due.told("anchor 0 5; ship bears 20 at 0; ship bears 15 on 0");
        x.hour(2);
        Due.due("11 one that drags isn't worn by it", x.of(0, 3), 0);
        Due.due("11 one on it is", x.of(1, 3), 1);
    }

    private static void lastHour() {
        AnchorString x = new AnchorString();
        for (int k = 0; k < 98; k++) {
            x.hours(100, 0);
        }
        x.hours(99, 0);
        Due.due("18 when(0) in hour 9899", x.when(0), Due.NONE);
        Due.due("19 who(0) in hour 9899", x.who(0), Due.NONE);
        x.hour(0);
        Due.due("18 when(0) in hour 9900", x.when(0), Due.STATE);
        Due.due("19 who(0) in hour 9900", x.who(0), Due.STATE);
        Due.due("18 when(13) in hour 9900", x.when(13), Due.BEYOND);
        Due.due("19 who(-1) in hour 9900", x.who(-1), Due.BEYOND);
        Due.due("12 hours(100, 0) in hour 9900", x.hours(100, 0), Due.STATE);
        Due.due("12 hours(101, 0) in hour 9900", x.hours(101, 0), Due.BEYOND);
        Due.due("12 hours(100, 13) in hour 9900", x.hours(100, 13), Due.BEYOND);
        Due.due("12 hours(98, 1)", x.hours(98, 1), 0);
        Due.due("12 hours(2, 1)", x.hours(2, 1), Due.STATE);
        Due.due("11 hour(1)", x.hour(1), 0);
        Due.due("11 hour(2) in hour 9999", x.hour(2), Due.STATE);
        Due.due("11 hour(13) in hour 9999", x.hour(13), Due.BEYOND);
        Due.due("12 hours(1, 2) in hour 9999", x.hours(1, 2), Due.STATE);
        Due.due("15 now(0)", x.now(0), 9999);
        Due.due("15 now(1)", x.now(1), 1);
        Due.due("45 status(4)", x.status(4), 6);
    }

    private static void hours() {
        AnchorString x = Due.told("ship bears 30 at 0; ship bears 40 at 1; ship bears 200 at 2");
        Due.due("12 hours(0, 5)", x.hours(0, 5), Due.BEYOND);
        Due.due("12 hours(101, 5)", x.hours(101, 5), Due.BEYOND);
        Due.due("12 hours(5, 13)", x.hours(5, 13), Due.BEYOND);
        Due.due("12 hours(5, -1)", x.hours(5, -1), Due.BEYOND);
        Due.due("12 hours(6, 5)", x.hours(6, 5), 0);
        Due.due("12 of(0, 3)", x.of(0, 3), 6);
        Due.due("12 hours(1, 5)", x.hours(1, 5), 1);
        Due.due("12 now(0)", x.now(0), 7);
        Due.due("12 now(1)", x.now(1), 5);
        x.set(0, 3, 0);
        x.hang(0, 100);
        Due.due("12 hours(100, 5), two by and by", x.hours(100, 5), 2);
        Due.due("12 of(0, 3)", x.of(0, 3), 6);
        Due.due("12 of(1, 3)", x.of(1, 3), 16);
        Due.due("12 of(2, 3)", x.of(2, 3), 0);
        Due.due("12 now(0)", x.now(0), 107);
    }

    private static void adriftAndLost() {
        AnchorString x = Due.told("ship; ship at 0; ship on 0; ship on 1; ship on 2; ship; ship on 3; ship at 5");
        Due.due("13 adrift()", x.adrift(), 1 + 32);
        Due.due("14 lost()", x.lost(), 1 + 4 + 16 + 32);
        x.hang(1, 4);
        Due.due("13 adrift()", x.adrift(), 1 + 32);
        Due.due("14 lost()", x.lost(), 127);
        x.hang(0, 105);
        Due.due("13 adrift()", x.adrift(), 32);
        Due.due("14 lost()", x.lost(), 32);
        x = Due.told("ship;ship;ship;ship;ship;ship;ship;ship;ship;ship;ship;ship");
        Due.due("13 adrift(), twelve", x.adrift(), 4095);
        for (int s = 1; s < 12; s++) {
            x.hang(s, s - 1);
        }
        Due.due("13 adrift(), one string", x.adrift(), 1);
        Due.due("14 lost(), one string", x.lost(), 4095);
        x.hang(0, 100);
        Due.due("13 adrift(), one string at an anchor", x.adrift(), 0);
        Due.due("14 lost(), one string at an anchor", x.lost(), 0);
        Due.due("15 now(3), twelve", x.now(3), 12);
        Due.due("5 of(11, 8)", x.of(11, 8), 12);
        Due.due("5 of(0, 9)", x.of(0, 9), 4095);
        Due.due("7 hang(0, 11)", x.hang(0, 11), Due.STATE);
    }

    private static void now() {
        AnchorString x = Due.told("ship at 0; ship size 4 on 0; ship at 3; ship; ship on 3; ship worn 7");
        Due.due("15 now(2) in 0", x.now(2), 0);
        x.hours(3, 2);
        Due.due("15 now(0)", x.now(0), 3);
        Due.due("15 now(1)", x.now(1), 2);
        Due.due("15 now(2)", x.now(2), 24);
        Due.due("15 now(3)", x.now(3), 2);
        Due.due("15 now(4)", x.now(4), 7);
        x.set(2, 1, 20);
        Due.due("15 now(2), at once", x.now(2), 34);
        x.set(4, 3, 99);
        Due.due("15 now(4)", x.now(4), 106);
        x.hang(0, -1);
        x.hang(2, -1);
        Due.due("15 now(2), none at an anchor", x.now(2), 0);
        Due.due("15 now(3), none at an anchor", x.now(3), 0);
        x.hang(0, 100);
        x.hang(1, -1);
        Due.due("15 now(3), ship 0 alone", x.now(3), 1);
        Due.due("15 now(-1)", x.now(-1), Due.BEYOND);
        Due.due("15 now(5)", x.now(5), Due.BEYOND);
    }

    private static void would() {
        AnchorString x = Due.told("ship bears 20 at 0; ship bears 10 on 0; ship; ship at 1; anchor 1 14");
        Due.due("16 would(0)", x.would(0), 4);
        Due.due("16 would(2)", x.would(2), 4);
        Due.due("16 would(3)", x.would(3), 4 + 1 + 2 + 8);
        Due.due("16 would(12)", x.would(12), 15);
        x.hang(3, 102);
        Due.due("16 would(3), as it is by then", x.would(3), 4 + 1 + 2);
        Due.due("16 would(-1)", x.would(-1), Due.BEYOND);
        Due.due("16 would(13)", x.would(13), Due.BEYOND);
        Due.due("16 nothing changed", x.adrift(), 4);
        Due.due("16 nothing changed", x.now(1), 0);
        Due.due("16 nothing changed", x.now(4), 0);
    }

    private static void holds() {
        AnchorString x = new AnchorString();
        Due.due("17 holds(), no ships", x.holds(), 12);
        x = Due.told("ship at 0");
        Due.due("17 holds()", x.holds(), 10);
        x.anchor(0, 34);
        Due.due("17 holds()", x.holds(), 6);
        x.anchor(0, 0);
        Due.due("17 holds()", x.holds(), 0);
        x.turn(0, 3);
        Due.due("17 holds(), dragging pulls in wind 0", x.holds(), Due.NONE);
        x.hang(0, -1);
        Due.due("17 holds(), adrift already", x.holds(), 12);
        Due.due("45 status(3)", x.status(3), 1);
    }

    private static void when() {
        AnchorString x = Due.told("ship bears 50 at 0; ship bears 40 at 1; ship bears 40 worn 5 at 2; ship");
        Due.due("18 when(5)", x.when(5), 12);
        Due.due("18 when(8)", x.when(8), 1);
        Due.due("18 when(7)", x.when(7), 2);
        Due.due("18 when(3)", x.when(3), Due.NONE);
        Due.due("18 when(4)", x.when(4), 17);
        Due.due("18 when(-1)", x.when(-1), Due.BEYOND);
        Due.due("18 when(13)", x.when(13), Due.BEYOND);
        Due.due("18 nothing changed", x.now(0), 0);
        Due.due("18 nothing changed", x.now(1), 0);
        Due.due("18 nothing changed", x.now(4), 5);
        Due.due("18 nothing changed", x.adrift(), 8);
        x = Due.told("anchor 0 999; ship size 99 bears 693 at 0; anchor 1 999; ship size 99 bears 692 at 1");
        Due.due("18 when(12), chains of 692 and 693 under 594", x.when(12), 100);
        Due.due("19 who(12)", x.who(12), 1);
        x.hang(1, -1);
        Due.due("18 when(12), worn 99 at most", x.when(12), Due.NONE);
        Due.due("19 who(12), worn 99 at most", x.who(12), Due.NONE);
    }

    private static void who() {
        AnchorString x = Due.told("ship; ship bears 50 at 0; ship bears 40 at 1; ship bears 40 at 2; anchor 3 49; ship bears 99 at 3");
        Due.due("19 who(5), of several the least", x.who(5), 2);
        Due.due("19 who(10)", x.who(10), 2);
        x.set(2, 2, 99);
        Due.due("19 who(8)", x.who(8), 3);
        x.set(3, 2, 99);
        Due.due("19 who(10), by an anchor", x.who(10), 4);
        Due.due("19 who(11)", x.who(11), 1);
        Due.due("19 who(0)", x.who(0), Due.NONE);
        Due.due("19 who(-1)", x.who(-1), Due.BEYOND);
        Due.due("19 who(13)", x.who(13), Due.BEYOND);
        Due.due("19 nothing changed", x.adrift(), 1);
        x.hang(0, 105);
        x.set(0, 2, 5);
        Due.due("19 who(11), ship 0", x.who(11), 0);
        Due.due("19 nothing changed", x.now(4), 0);
    }

    private static void sure() {
        AnchorString x = new AnchorString();
        Due.due("20 sure(), no ships", x.sure(), 13);
        x = Due.told("ship at 0; odds 0 10; odds 10 7; odds 11 50; odds 12 99");
        Due.due("20 sure()", x.sure(), 10 + 9 + 7);
        x.turn(0, 3);
        x.anchor(0, 4);
        Due.due("20 sure(), in none", x.sure(), 0);
        x.anchor(0, 9);
        Due.due("20 sure(), in wind 0", x.sure(), 10);
    }
}
