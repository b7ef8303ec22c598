/** Boundary cases of promises 11 to 20; those of refused calls stand in RefusalsTest. */
public final class WindsEdgesTest {
    public static void main(String[] args) {
        hourCounts();
        hourToTheLast();
        hoursOneAndHundred();
        hoursToTheLast();
        hoursCountEachOnce();
        adrift();
        lost();
        nowOfNothing();
        nowLoads();
        nowDepth();
        nowWorn();
        would();
        holds();
        whenInHundred();
        whenByWear();
        whenWornNoMore();
        whoOfSeveral();
        whoNone();
        whoByAnAnchor();
        sure();
        Due.end();
    }

    /** "how many are ADRIFT by it that weren't": none, one, all, and none that was. */
    private static void hourCounts() {
        AnchorString x = Due.ships(12, 0, 10);
        Due.due("11 all adrift already", x.hour(12), 0);
        for (int s = 0; s < 12; s++) {
            x.hang(s, 100 + s % 6);
        }
        Due.due("11 none", x.hour(0), 0);
        x.set(11, 2, 0);
        Due.due("11 one", x.hour(1), 1);
        Due.due("11 all others", x.hour(12), 11);
        Due.due("11 none is left", x.hour(12), 0);
        Due.due("11 no ships", new AnchorString().hour(12), 0);
    }

    private static AnchorString inHour(AnchorString x, int hour) {
        for (int h = 100; h <= hour; h += 100) {
            x.hours(100, 0);
        }
        if (hour % 100 > 0) {
            x.hours(hour % 100, 0);
        }
        return x;
    }

    /** "STATE: HOUR is 9999." */
    private static void hourToTheLast() {
        AnchorString x = inHour(Due.told("ship bears 9 at 0; ship bears 14 at 1"), 9998);
        Due.due("11 in hour 9998", x.hour(2), 1);
        Due.due("11 HOUR", x.now(0), 9999);
        Due.due("11 in hour 9999", x.hour(3), Due.STATE);
        Due.due("11 nobody parts", x.adrift(), 1);
        Due.due("11 WIND stays", x.now(1), 2);
        Due.due("11 in hour 9999, beyond", x.hour(13), Due.BEYOND);
    }

    /** "n HOURS (1 to 100) of WIND w each" */
    private static void hoursOneAndHundred() {
        AnchorString x = Due.told("ship size 2 bears 200 at 0; ship bears 9 at 1");
        Due.due("12 hours(1, 0)", x.hours(1, 0), 0);
        Due.due("12 HOUR", x.now(0), 1);
        Due.due("12 hours(100, 12)", x.hours(100, 12), 1);
        Due.due("12 HOUR", x.now(0), 101);
        Due.due("12 WIND", x.now(1), 12);
        Due.due("12 hours(0, 5)", x.hours(0, 5), Due.BEYOND);
        Due.due("12 hours(101, 5)", x.hours(101, 5), Due.BEYOND);
        Due.due("12 HOUR", x.now(0), 101);
        Due.due("12 WIND", x.now(1), 12);
    }

    /** "STATE: HOUR would be above 9999." */
    private static void hoursToTheLast() {
        AnchorString x = inHour(Due.told("ship bears 9 at 0"), 9899);
        Due.due("12 hours(100, 2) in 9899", x.hours(100, 2), 1);
        Due.due("12 HOUR", x.now(0), 9999);
        Due.due("12 hours(1, 2) in 9999", x.hours(1, 2), Due.STATE);
        x = inHour(Due.told("ship bears 9 at 0"), 9900);
        Due.due("12 hours(100, 2) in 9900", x.hours(100, 2), Due.STATE);
        Due.due("12 not even some of them", x.now(0), 9900);
        Due.due("12 nobody parts", x.adrift(), 0);
        Due.due("12 hours(99, 2) in 9900", x.hours(99, 2), 1);
        Due.due("12 HOUR", x.now(0), 9999);
        x = inHour(new AnchorString(), 9998);
        Due.due("12 hours(2, 0) in 9998", x.hours(2, 0), Due.STATE);
        Due.due("12 hours(1, 0) in 9998", x.hours(1, 0), 0);
    }

    /** "likewise": all that went in any of these hours, and each once. */
    private static void hoursCountEachOnce() {
        AnchorString x = Due.told("ship bears 11 at 0; ship bears 13 at 1; ship bears 9 at 2; ship; ship bears 20 at 3");
        Due.due("12 at once and by and by", x.hours(100, 2), 3);
        Due.due("12 adrift()", x.adrift(), 1 + 2 + 4 + 8);
        Due.due("12 worn in two hours", x.of(0, 3), 2);
        Due.due("12 worn in four hours", x.of(1, 3), 4);
        Due.due("12 worn in none, parted", x.of(2, 3), 0);
        Due.due("12 worn in none, half", x.of(4, 3), 0);
        AnchorString y = Due.told("ship bears 11 at 0; ship bears 13 at 1; ship bears 9 at 2; ship; ship bears 20 at 3");
        int sum = 0;
        for (int k = 0; k < 100; k++) {
            sum += y.hour(2);
        }
        Due.due("12 as a hundred times hour()", sum, 3);
        Due.same("12 as a hundred times hour()", Due.look(x), Due.look(y));
    }

    /** "SHIPS that are ADRIFT themselves, as a set." */
    private static void adrift() {
        Due.due("13 no ships", new AnchorString().adrift(), 0);
        AnchorString x = Due.ships(12, 0, 10);
        Due.due("13 all", x.adrift(), 4095);
        for (int s = 1; s < 12; s++) {
            x.hang(s, 0);
        }
        Due.due("13 not those on one adrift", x.adrift(), 1);
        x.hang(0, 100);
        Due.due("13 none", x.adrift(), 0);
    }

    /** "SHIPS with DEPTH 0, as a set." */
    private static void lost() {
        Due.due("14 no ships", new AnchorString().lost(), 0);
        AnchorString x = Due.ships(12, 0, 10);
        Due.due("14 all adrift", x.lost(), 4095);
        for (int s = 0; s < 11; s++) {
            x.hang(s, s + 1);
        }
        Due.due("14 all on one adrift", x.lost(), 4095);
        x.hang(11, 105);
        Due.due("14 none", x.lost(), 0);
        x.hang(5, -1);
        Due.due("14 one and those behind it", x.lost(), 63);
    }

    private static void nowOfNothing() {
        AnchorString x = new AnchorString();
        for (int what = 0; what < 5; what++) {
            Due.due("15 now(" + what + "), no ships", x.now(what), 0);
        }
        Due.due("15 now(-1)", x.now(-1), Due.BEYOND);
        Due.due("15 now(5)", x.now(5), Due.BEYOND);
    }

    /** "2 LOADS of all ANCHORS together in this WIND" */
    private static void nowLoads() {
        AnchorString x = Due.ships(12, 1, 99);
        x.hour(12);
        Due.due("15 all adrift", x.now(2), 0);
        for (int s = 0; s < 6; s++) {
            x.hang(s, 100 + s);
        }
        Due.due("15 one on each", x.now(2), 6 * 891);
        x.hang(6, 7);
        Due.due("15 not those on one adrift", x.now(2), 6 * 891);
        for (int s = 6; s < 12; s++) {
            x.hang(s, s - 6);
        }
        Due.due("15 twelve, above 9999", x.now(2), 12 * 891);
    }

    /** "3 the greatest DEPTH" */
    private static void nowDepth() {
        AnchorString x = Due.ships(12, 0, 10);
        for (int s = 0; s < 11; s++) {
            x.hang(s, s + 1);
        }
        Due.due("15 all lost", x.now(3), 0);
        x.hang(11, 100);
        Due.due("15 twelve", x.now(3), 12);
        x.hang(0, 100);
        Due.due("15 eleven", x.now(3), 11);
        for (int s = 1; s < 12; s++) {
            x.hang(s, -1);
        }
        Due.due("15 one", x.now(3), 1);
    }

    /** "4 WORN of all together": also of those adrift. */
    private static void nowWorn() {
        AnchorString x = Due.ships(12, 0, 10);
        for (int s = 0; s < 12; s++) {
            x.set(s, 3, 99);
        }
        Due.due("15 twelve times 99", x.now(4), 1188);
        x.set(11, 3, 0);
        Due.due("15 eleven times 99", x.now(4), 1089);
    }

    /** "SHIPS that would be ADRIFT themselves by SETTLE in a WIND now (those that are, too)" */
    private static void would() {
        Due.due("16 no ships", new AnchorString().would(12), 0);
        AnchorString x = Due.ships(12, 0, 10);
        Due.due("16 those that are", x.would(0), 4095);
        for (int s = 0; s < 12; s++) {
            x.hang(s, 100 + s % 6);
        }
        Due.due("16 none", x.would(0), 0);
        Due.due("16 none, as much as chains bear", x.would(10), 0);
        Due.due("16 all, above it", x.would(11), 4095);
        x.set(11, 1, 9);
        Due.due("16 all but the last", x.would(11), 2047);
        x.anchor(5, 48);
        Due.due("16 and the last, its anchor drags", x.would(11), 4095);
    }

    /** "The greatest WIND (0 to 12) such that all HOLD in it and in all lesser ones. NONE: not in WIND 0." */
    private static void holds() {
        AnchorString x = Due.told("ship at 0");
        int[][] rows = {{60, 12}, {59, 11}, {55, 11}, {54, 10}, {5, 1}, {4, 0}, {0, 0}};
        for (int[] row : rows) {
            x.set(0, 2, row[0]);
            Due.due("17 holds(), bears " + row[0], x.holds(), row[1]);
        }
        x.set(0, 2, 9999);
        for (int[] row : rows) {
            x.anchor(0, row[0]);
            Due.due("17 holds(), anchor holds " + row[0], x.holds(), row[1]);
        }
        x.turn(0, 3);
        x.anchor(0, 5);
        Due.due("17 in 0 alone", x.holds(), 0);
        x.anchor(0, 4);
        Due.due("17 not in 0, by the anchor", x.holds(), Due.NONE);
        x.anchor(0, 100);
        x.set(0, 2, 4);
        Due.due("17 not in 0, by the chain", x.holds(), Due.NONE);
        Due.due("17 no ships", new AnchorString().holds(), 12);
    }

    /** "In how many HOURS (1 to 100) of WIND w each one is ADRIFT first that isn't now." */
    private static void whenInHundred() {
        AnchorString x = Due.told("anchor 0 999; ship size 99 bears 593 at 0");
        Due.due("18 in the first", x.when(12), 1);
        x.set(0, 2, 594);
        Due.due("18 in the second", x.when(12), 2);
        x.set(0, 2, 692);
        Due.due("18 in the hundredth", x.when(12), 100);
        x.set(0, 2, 693);
        Due.due("18 in the 101st, were it not worn 99 at most", x.when(12), Due.NONE);
        x.set(0, 3, 1);
        Due.due("18 worn 1 at first, and 99 at most", x.when(12), Due.NONE);
        x.set(0, 2, 692);
        Due.due("18 in the 99th, worn 1 at first", x.when(12), 99);
    }

    /** One adrift now is none that would be; and those hours are not passed. */
    private static void whenByWear() {
        AnchorString x = Due.told("ship bears 0; ship bears 20 at 0; ship bears 19 at 1");
        Due.due("18 half of 20 and of 19", x.when(2), 11);
        Due.due("19 who(2)", x.who(2), 2);
        x.hang(2, -1);
        Due.due("18 half of 20", x.when(2), Due.NONE);
        Due.due("19 who(2), none", x.who(2), Due.NONE);
        Due.due("18 no hour passed", x.now(0), 0);
        Due.due("18 nothing is worn", x.now(4), 0);
    }

    private static void whenWornNoMore() {
        AnchorString x = Due.told("ship bears 109 worn 99 at 0");
        Due.due("18 10 of 10, worn 99", x.when(2), Due.NONE);
        x.set(0, 2, 108);
        Due.due("18 10 of 9, worn 99", x.when(2), 1);
    }

    /** "Which SHIP that is (of several the least)." */
    private static void whoOfSeveral() {
        AnchorString x = Due.ships(12, 0, 10);
        for (int s = 11; s >= 0; s--) {
            x.hang(s, 100 + s % 6);
            x.set(s, 2, 9);
            Due.due("19 the least of " + (12 - s), x.who(2), s);
        }
        x.set(0, 2, 10);
        Due.due("19 not one that goes an hour later", x.who(2), 1);
        Due.due("18 in the first hour", x.when(2), 1);
    }

    /** "NONE.": of no ships, and of as many as can be. */
    private static void whoNone() {
        AnchorString x = new AnchorString();
        Due.due("18 no ships", x.when(12), Due.NONE);
        Due.due("19 no ships", x.who(12), Due.NONE);
        x = Due.ships(12, 0, 10);
        Due.due("18 twelve adrift", x.when(12), Due.NONE);
        Due.due("19 twelve adrift", x.who(12), Due.NONE);
        for (int s = 0; s < 12; s++) {
            x.hang(s, 100 + s % 6);
        }
        Due.due("18 twelve that hold", x.when(5), Due.NONE);
        Due.due("19 twelve that hold", x.who(5), Due.NONE);
    }

    private static void whoByAnAnchor() {
        AnchorString x = Due.told("ship bears 14 at 1; ship bears 99 at 0; ship bears 99 at 0; anchor 0 19");
        Due.due("19 by an anchor in the first hour", x.who(2), 1);
        x.anchor(0, 20);
        Due.due("19 by a chain in the sixth", x.who(2), 0);
        Due.due("18 by a chain in the sixth", x.when(2), 6);
    }

    /** "Sum of ODDS of all WINDS in which all HOLD." */
    private static void sure() {
        AnchorString x = new AnchorString();
        for (int w = 0; w < 13; w++) {
            x.odds(w, 99);
        }
        Due.due("20 no ships, thirteen times 99", x.sure(), 1287);
        x.ship(3, 10);
        x.hang(0, 100);
        x.set(0, 2, 65);
        Due.due("20 in all", x.sure(), 1287);
        x.set(0, 2, 64);
        Due.due("20 not in 12", x.sure(), 1188);
        x.odds(11, 0);
        Due.due("20 not in 12, 0 in 11", x.sure(), 1089);
        x.set(0, 2, 5);
        Due.due("20 in 0 alone", x.sure(), 99);
        x.odds(0, 0);
        Due.due("20 in 0 alone, of ODDS 0", x.sure(), 0);
        x.odds(0, 99);
        x.set(0, 2, 4);
        Due.due("20 in none", x.sure(), 0);
    }
}
