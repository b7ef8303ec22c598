/**
 * Each question of promises 16 to 40 as the first one that an object is asked:
 * the answer comes from how all lie, however they came to lie so, and from
 * nothing that an earlier question or a text tried.
 */
public final class QuestionsTest {
    public static void main(String[] args) {
        askAll("by calls", new Refused(QuestionsTest::byCalls));
        askAll("by a text", new Refused(QuestionsTest::byText));
        askAll("behind an undo", new Refused(QuestionsTest::behindUndo));
        askAll("behind a fault", new Refused(QuestionsTest::behindFault));
        onAShipByCalls();
        notOnItsOwnStringByCalls();
        textByCalls();
        Due.end();
    }

    /** A SHIP of 10 at anchor 0, a TALL of 8 on it, a BURNING of 5 adrift: in wind w they pull 5w, 6w and 15w by 4. */
    private static AnchorString byCalls() {
        AnchorString x = new AnchorString();
        x.ship(0, 10);
        x.ship(1, 8);
        x.ship(4, 5);
        x.hang(0, 100);
        x.hang(1, 0);
        return withSheet(x);
    }

    private static AnchorString byText() {
        return withSheet(Due.told("ship at 0; tall size 8 on 0; burning size 5"));
    }

    /** What was tried with four ships must not be seen with three. */
    private static AnchorString behindUndo() {
        AnchorString x = byCalls();
        x.image();
        x.ship(3, 99);
        x.hang(3, 1);
        x.hang(2, 3);
        x.anchor(0, 0);
        x.set(0, 2, 0);
        x.hours(3, 5);
        x.would(0);
        x.undo();
        x.tear();
        return x;
    }

    private static AnchorString behindFault() {
        AnchorString x = byCalls();
        Due.text(x, "ship size 99 on 1; hang 2 on 3; anchor 0 0; odds 3 50; ?");
        return x;
    }

    /** Sheet 0 tells that ship 0 alone parts, sheet 1 has odds that all but one may not be. */
    private static AnchorString withSheet(AnchorString x) {
        x.sheet(0, 8, 3);
        x.dawn(0);
        x.write(0, 0, -1);
        x.sheet(1, 64, 3);
        x.write(1, 0, -1);
        x.write(1, 1, 100);
        x.write(1, 2, 1);
        return x;
    }

    private static void askAll(String how, Refused it) {
        it.asked("16 would(5) " + how, 1 + 4, x -> x.would(5));
        it.asked("16 would(12) " + how, 7, x -> x.would(12));
        it.asked("17 holds() " + how, 4, x -> x.holds());
        it.asked("18 when(4) " + how, 8, x -> x.when(4));
        it.due("18 when(2) " + how, Due.NONE, x -> x.when(2));
        it.asked("19 who(4) " + how, 0, x -> x.who(4));
        it.asked("20 sure() " + how, 5, x -> x.sure());
        it.asked("23 place(2, 4) " + how, 100, x -> x.place(2, 4));
        it.due("23 place(2, 5) " + how, Due.NONE, x -> x.place(2, 5));
        it.beyond("23 place(3, 0) " + how, x -> x.place(3, 0));
        it.asked("24 best(1) " + how, 100, x -> x.best(1));
        it.beyond("24 best(3) " + how, x -> x.best(3));
        it.asked("26 canCut(0, 8) " + how, 1, x -> x.canCut(0, 8));
        it.asked("26 canCut(0, 9) " + how, 0, x -> x.canCut(0, 9));
        it.beyond("26 canCut(3, 0) " + how, x -> x.canCut(3, 0));
        it.asked("27 matters() " + how, 0, x -> x.matters());
        it.asked("28 bears(0, 12) " + how, 132, x -> x.bears(0, 12));
        it.asked("28 bears(1, 12) " + how, 72, x -> x.bears(1, 12));
        it.beyond("28 bears(3, 0) " + how, x -> x.bears(3, 0));
        it.asked("29 weakest(5) " + how, 0, x -> x.weakest(5));
        it.asked("30 kind(0) " + how, 2, x -> x.kind(0));
        it.asked("30 kind(2) " + how, 0, x -> x.kind(2));
        it.beyond("30 kind(3) " + how, x -> x.kind(3));
        it.asked("31 stronger() " + how, 0, x -> x.stronger());
        it.asked("38 lays(1) " + how, 1, x -> x.lays(1));
        it.asked("40 read(0) " + how, 5, x -> x.read(0));
    }

    /** "of several the least number": a ship, of which no question was asked yet. */
    private static void onAShipByCalls() {
        AnchorString x = new AnchorString();
        x.ship(0, 1);
        x.ship(0, 1);
        x.hang(0, 100);
        Due.due("24 best(1), the first question", x.best(1), 0);
    }

    /** As all lie now, not as they lay when a text was told. */
    private static void notOnItsOwnStringByCalls() {
        AnchorString x = Due.told("ship size 1 bears 9999; ship size 1 bears 9999");
        x.hang(1, 0);
        Due.due("24 best(0), with another on it by now", x.best(0), 100);
        x = Due.told("ship size 1 bears 9999; ship size 1 bears 9999");
        x.hang(1, 0);
        Due.due("23 place(0, 12), with another on it by now", x.place(0, 12), 100);
    }

    private static void textByCalls() {
        AnchorString x = byCalls();
        Due.due("34 'hang 2 on 1', the first text", Due.text(x, "hang 2 on 1"), 1);
        Due.due("34 of(2, 4)", x.of(2, 4), 1);
        Due.due("34 of(1, 4) stays", x.of(1, 4), 0);
        x = behindUndo();
        Due.due("34 'hang 3 at 1', which is taken back", Due.text(x, "hang 3 at 1"), -6);
        Due.due("34 'ship;hang 3 at 1'", Due.text(x, "ship;hang 3 at 1"), 2);
        Due.due("34 of(3, 1)", x.of(3, 1), 10);
        Due.due("34 of(3, 4)", x.of(3, 4), 101);
    }
}
