/** Boundary cases of promises 27 to 31; those of refused calls stand in RefusalsTest. */
public final class ChainsEdgesTest {
    public static void main(String[] args) {
        mattersNone();
        mattersMost();
        bearsLeast();
        bearsOf9999();
        bearsOfSmuggler9999();
        bearsByTheAnchor();
        bearsOnceOthersParted();
        weakestNone();
        weakestLeast();
        weakestBelowNothing();
        kindOfSeveral();
        kindInNone();
        kindBreaksAtHalf();
        strongerOfSeveral();
        strongerByThousand();
        strongerAbove9999();
        strongerInNone();
        Due.end();
    }

    /** "NONE: none would." */
    private static void mattersNone() {
        Due.due("27 no ships", new AnchorString().matters(), Due.NONE);
        AnchorString x = Due.ships(12, 0, 10);
        Due.due("27 all adrift", x.matters(), Due.NONE);
        for (int s = 1; s < 12; s++) {
            x.hang(s, s - 1);
        }
        Due.due("27 all lost", x.matters(), Due.NONE);
        x.hang(11, 100);
        Due.due("27 one isn't", x.matters(), 11);
    }

    /** "would leave most SHIPS with DEPTH 0 that haven't it now; of several the least." */
    private static void mattersMost() {
        AnchorString x = Due.ships(12, 0, 10);
        for (int s = 0; s < 12; s++) {
            x.hang(s, 100 + s % 6);
        }
        Due.due("27 of twelve the least", x.matters(), 0);
        x.hang(0, 11);
        Due.due("27 the one with one on it", x.matters(), 11);
        x.hang(1, 7);
        Due.due("27 of two the least", x.matters(), 7);
        x.hang(2, 11);
        Due.due("27 two on it", x.matters(), 11);
        for (int s = 0; s < 12; s++) {
            x.hang(s, s == 11 ? 105 : -1);
        }
        for (int s = 0; s < 11; s++) {
            x.hang(s, s + 1);
        }
        Due.due("27 twelve", x.matters(), 11);
        x.hang(11, -1);
        x.hang(3, 100);
        Due.due("27 those lost don't count", x.matters(), 3);
    }

    /** "What a SHIP's CHAIN must BEAR at least (0 to 9999 ..)" */
    private static void bearsLeast() {
        AnchorString x = Due.told("ship worn 99 at 0; smuggler size 2 worn 99 at 1; dragging size 1 at 2");
        Due.due("28 nothing to bear, though worn", x.bears(0, 0), 0);
        Due.due("28 5 and worn 99", x.bears(0, 1), 104);
        Due.due("28 a smuggler in 3", x.bears(1, 3), 0);
        Due.due("28 a smuggler in 4, twice 2 and worn 99", x.bears(1, 4), 103);
        Due.due("28 dragging in 0", x.bears(2, 0), 5);
        Due.due("28 dragging in 1", x.bears(2, 1), 5);
        Due.due("28 dragging in 2", x.bears(2, 2), 6);
        for (int c = 103; c < 106; c++) {
            x.set(0, 2, c);
            Due.due("28 as would() says, bears " + c, x.would(1) & 1, c < 104 ? 1 : 0);
            Due.due("28 whatever it bears now", x.bears(0, 1), 104);
        }
    }

    /** "NONE: by no CHAIN.": 9999 is one, 10000 isn't. */
    private static void bearsOf9999() {
        AnchorString x = Due.ships(12, 1, 99);
        x.turn(0, 4);
        x.hang(0, 1);
        for (int s = 2; s < 12; s++) {
            x.set(s, 2, 9999);
            x.hang(s, 0);
        }
        // Ten TALL, and one that burns with ten on it: 10 * 891 + 891 + 100.
        Due.due("28 9901", x.bears(0, 12), 9901);
        x.set(0, 3, 98);
        Due.due("28 9901 and worn 98", x.bears(0, 12), 9999);
        x.set(0, 3, 99);
        Due.due("28 9901 and worn 99", x.bears(0, 12), Due.NONE);
        Due.due("28 in 11", x.bears(0, 11), 11 * 816 + 100 + 99);
    }

    private static void bearsOfSmuggler9999() {
        AnchorString x = Due.ships(9, 1, 99);
        x.turn(0, 5);
        x.set(0, 1, 2);
        x.hang(0, 1);
        for (int s = 2; s < 9; s++) {
            x.set(s, 2, 9999);
            x.hang(s, 0);
        }
        for (int s = 7; s < 9; s++) {
            x.turn(s, 3);
            x.set(s, 1, 40);
        }
        // 5 * 891 + 2 * 245 + 6 are 4951, of which twice.
        Due.due("28 9902", x.bears(0, 12), 9902);
        x.set(0, 3, 97);
        Due.due("28 9902 and worn 97", x.bears(0, 12), 9999);
        x.set(0, 3, 98);
        Due.due("28 9902 and worn 98", x.bears(0, 12), Due.NONE);
    }

    /** "so that it itself isn't ADRIFT by SETTLE": also not by its anchor. */
    private static void bearsByTheAnchor() {
        AnchorString x = Due.told("ship at 0; ship on 0; anchor 0 20");
        Due.due("28 20 of the anchor's 20", x.bears(0, 2), 20);
        x.anchor(0, 19);
        Due.due("28 20 of the anchor's 19", x.bears(0, 2), Due.NONE);
        Due.due("28 one on it stays on it", x.bears(1, 2), 10);
        x.set(1, 2, 9);
        Due.due("28 once the other parted, but too late", x.bears(0, 2), 20);
    }

    /** "all else as it is": the strain is what is left once others, ahead by number, have parted. */
    private static void bearsOnceOthersParted() {
        AnchorString x = Due.told("ship bears 9; ship at 0; ship bears 9; hang 0 on 1; hang 2 on 1");
        Due.due("28 one parts ahead of it, one behind", x.bears(1, 2), 20);
        x.set(2, 2, 10);
        Due.due("28 one parts ahead of it, one holds", x.bears(1, 2), 20);
        x.set(0, 2, 10);
        Due.due("28 none parts", x.bears(1, 2), 30);
        x.hang(2, 0);
        x.set(0, 2, 19);
        Due.due("28 a string parts ahead of it", x.bears(1, 2), 10);
    }

    /** "NONE." */
    private static void weakestNone() {
        Due.due("29 no ships", new AnchorString().weakest(12), Due.NONE);
        AnchorString x = Due.ships(12, 0, 10);
        Due.due("29 all adrift", x.weakest(0), Due.NONE);
        x.hang(11, 10);
        Due.due("29 one on one adrift", x.weakest(0), 11);
    }

    /** "the SHIP that HANGS with the least of what it BREAKS at less its STRAIN in a WIND; of several the least." */
    private static void weakestLeast() {
        AnchorString x = Due.ships(12, 0, 10);
        for (int s = 0; s < 12; s++) {
            x.hang(s, 100 + s % 6);
        }
        Due.due("29 of twelve the least", x.weakest(0), 0);
        x.set(11, 2, 49);
        Due.due("29 49 of 50", x.weakest(0), 11);
        x.set(10, 3, 1);
        Due.due("29 of two the least", x.weakest(0), 10);
        x.set(4, 1, 11);
        Due.due("29 in 1, 45 of 45 and 44", x.weakest(1), 10);
        Due.due("29 in 2, 39 of 39", x.weakest(2), 4);
        x.hang(4, -1);
        Due.due("29 in 2, that one is adrift", x.weakest(2), 10);
    }

    private static void weakestBelowNothing() {
        AnchorString x = Due.told("ship bears 0 at 0; ship size 99 at 1; ship bears 1 at 2");
        Due.due("29 in 0, nothing less nothing", x.weakest(0), 0);
        Due.due("29 in 1, -5 and 1", x.weakest(1), 0);
        Due.due("29 in 2, -10 and -49", x.weakest(2), 1);
        Due.due("29 in 12, -60 and -544", x.weakest(12), 1);
    }

    /** "The KIND as one of which a SHIP lets all HOLD in the greatest WIND ..; of several the least." */
    private static void kindOfSeveral() {
        AnchorString x = Due.told("tall at 0");
        Due.due("30 TOWED to 12, 30 of 50; SMUGGLER to 10", x.kind(0), 2);
        x.set(0, 2, 60);
        Due.due("30 SHIP to 12, 60 of 60", x.kind(0), 0);
        x.set(0, 2, 59);
        Due.due("30 SHIP to 11, 60 of 59", x.kind(0), 2);
        x.set(0, 2, 5);
        Due.due("30 TOWED to 2, SMUGGLER to 3", x.kind(0), 5);
        x.set(0, 2, 9);
        Due.due("30 TOWED to 3, SMUGGLER to 3", x.kind(0), 2);
        x.hang(0, -1);
        Due.due("30 adrift: all alike", x.kind(0), 0);
    }

    /** "NONE counts for -1" */
    private static void kindInNone() {
        AnchorString x = Due.told("smuggler at 0; dragging at 5; anchor 5 4");
        Due.due("30 another doesn't hold in 0", x.kind(0), 0);
        x.anchor(5, 5);
        Due.due("30 another holds in 0 alone", x.kind(0), 0);
        Due.due("30 that one as SHIP to 1, as TOWED to 2, as SMUGGLER to 4", x.kind(1), 5);
        Due.due("30 nothing changed", x.of(1, 0), 3);
    }

    private static void kindBreaksAtHalf() {
        AnchorString x = Due.told("ship bears 10 at 0; ship bears 50 on 0; anchor 0 9999");
        // With 5 for each wind behind it: SHIP and TOWED to 1, SMUGGLER (5) to 1.
        Due.due("30 SMUGGLER breaks at half", x.kind(0), 0);
        x.set(0, 2, 15);
        // SHIP 20 in 2; TOWED 15 in 2; SMUGGLER breaks at 7.
        Due.due("30 TOWED, 15 of 15", x.kind(0), 2);
        x.set(0, 2, 14);
        Due.due("30 TOWED, 15 of 14", x.kind(0), 0);
    }

    /** "Where one ANCHOR should HOLD 1000 more so that holds() is greatest ..; of several the least ANCHOR." */
    private static void strongerOfSeveral() {
        Due.due("31 no ships", new AnchorString().stronger(), 0);
        AnchorString x = Due.ships(6, 0, 10);
        for (int s = 0; s < 6; s++) {
            x.set(s, 2, 999);
            x.hang(s, 100 + s);
        }
        Due.due("31 all hold in 12", x.stronger(), 0);
        x.anchor(5, 59);
        Due.due("31 the last holds to 11", x.stronger(), 5);
        x.anchor(4, 59);
        Due.due("31 two hold to 11", x.stronger(), 0);
        x.anchor(4, 54);
        Due.due("31 one to 10, one to 11", x.stronger(), 4);
        x.set(0, 2, 54);
        Due.due("31 a chain to 10", x.stronger(), 0);
    }

    private static void strongerByThousand() {
        // Twelve SHIPS of 99 pull 1188 in wind 2, and 588 in wind 1.
        AnchorString x = Due.ships(12, 0, 99);
        for (int s = 0; s < 12; s++) {
            x.set(s, 2, 9999);
            x.hang(s, 102);
        }
        x.anchor(2, 588);
        Due.due("31 1588, to 2 instead of 1", x.stronger(), 2);
        x.anchor(2, 1776);
        Due.due("31 2776 of 2964 in 5, 2376 in 4", x.stronger(), 2);
        x.anchor(2, 188);
        Due.due("31 1188 of 1188", x.stronger(), 2);
        // Twelve SMUGGLERS pull nothing in 3, and 1188 in 4.
        for (int s = 0; s < 12; s++) {
            x.turn(s, 5);
        }
        Due.due("31 1188 of 1188 in 4", x.stronger(), 2);
        x.anchor(2, 187);
        Due.due("31 1188 of 1187 in 4", x.stronger(), 0);
    }

    /** The 1000 more are not cut at 9999: the document says so of no sum. */
    private static void strongerAbove9999() {
        AnchorString x = Due.ships(12, 1, 99);
        for (int s = 0; s < 12; s++) {
            x.set(s, 2, 9999);
            x.hang(s, 104);
        }
        x.anchor(4, 9791);
        Due.due("17 12 times 816 is above 9791", x.holds(), 10);
        x.anchor(4, 9792);
        Due.due("17 12 times 816 is 9792", x.holds(), 11);
        Due.due("31 10692 of 10792 in 12", x.stronger(), 4);
        x.anchor(4, 9999);
        Due.due("31 10692 of 10999 in 12", x.stronger(), 4);
        Due.due("31 nothing changed", x.anchorOf(4, 0), 9999);
    }

    /** "(NONE counts for -1)" */
    private static void strongerInNone() {
        AnchorString x = Due.told("dragging bears 5 at 1; dragging bears 5 at 5; anchor 1 4; anchor 5 4");
        Due.due("31 two drag in 0", x.stronger(), 0);
        x.anchor(1, 5);
        Due.due("31 one drags in 0", x.stronger(), 5);
        x.set(0, 2, 4);
        Due.due("31 a chain parts in 0", x.stronger(), 0);
    }
}
