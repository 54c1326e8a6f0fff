import java.util.List;

/** Edges of all promises that can be refused: a call that is refused changes nothing. */
final class RefusedEdges {
    private static final int LEAST = Integer.MIN_VALUE;
    private static final int MOST = Integer.MAX_VALUE;
    private static final String SAYS = "A call that is refused (NONE, false) changes nothing but the tape, where it is told.";

    private RefusedEdges() {
    }

    private interface Call {
        long on(YearFigures x);
    }

    private interface Told {
        boolean on(YearFigures x);
    }

    /** None of the calls changes what can be asked, the bytes of the tape or what was KEPT. */
    private static void refused(Due due, long answer, Call... calls) {
        YearFigures x = Scene.full();
        List<String> before = Scene.picture(x);
        for (int i = 0; i < calls.length; i++) {
            due.is("refused call " + i, calls[i].on(x), answer);
        }
        Scene.same(due, before, Scene.picture(x));
        int counted = x.counted(0, 0);
        due.is("the report that is on the tape", x.report(4), 1);
        due.is("what it counts", x.counted(0, 0), counted + 5);
        YearFigures twin = Scene.full();
        twin.undo();
        due.is("undo", x.undo(), true);
        due.is("MONTH as it was KEPT", x.count(1), 2);
        due.is("X as it was KEPT", x.count(9), twin.count(9));
        due.is("COUNT as it was KEPT", x.counted(2, 1), twin.counted(2, 1));
    }

    private static void untold(Due due, Told... calls) {
        Call[] all = new Call[calls.length];
        for (int i = 0; i < calls.length; i++) {
            Told one = calls[i];
            all[i] = x -> one.on(x) ? 1 : 0;
        }
        refused(due, 0, all);
    }

    @Edge(promise = 2, says = SAYS)
    static void county(Due due) {
        untold(due, x -> x.county(-1, 5), x -> x.county(6, 5), x -> x.county(0, -1), x -> x.county(0, 10000),
            x -> x.county(5, 10000), x -> x.county(LEAST, MOST), x -> x.county(MOST, LEAST), x -> x.county(0, LEAST));
    }

    @Edge(promise = 3, says = SAYS)
    static void next(Due due) {
        untold(due, x -> x.next(0, 0, true), x -> x.next(0, 3, true), x -> x.next(3, 0, true), x -> x.next(3, 5, true),
            x -> x.next(0, 6, true), x -> x.next(-1, 0, true), x -> x.next(1, 1, false), x -> x.next(0, 33, false),
            x -> x.next(LEAST, MOST, true));
    }

    @Edge(promise = 4, says = SAYS)
    static void figure(Due due) {
        untold(due, x -> x.figure(-1, 5), x -> x.figure(6, 5), x -> x.figure(0, -1), x -> x.figure(0, 10000),
            x -> x.figure(5, 10000), x -> x.figure(LEAST, 0), x -> x.figure(0, MOST));
    }

    @Edge(promise = 5, says = SAYS)
    static void staff(Due due) {
        untold(due, x -> x.staff(-1), x -> x.staff(10000), x -> x.staff(LEAST), x -> x.staff(MOST));
    }

    @Edge(promise = 6, says = SAYS)
    static void feed(Due due) {
        YearFigures x = Scene.full();
        for (int i = 0; i < 11; i++) {
            x.feed(0, 0, 0, 0, 0);
        }
        List<String> before = Scene.picture(x);
        due.is("a feed beyond 260", x.feed(LEAST, MOST, -1, 0, 1), -1);
        Scene.same(due, before, Scene.picture(x));
        due.is("the report that is on the tape", x.report(4), 1);
    }

    @Edge(promise = 7, says = SAYS)
    static void law(Due due) {
        refused(due, -1, x -> x.law(0), x -> x.law(-1), x -> x.law(41), x -> x.law(240), x -> x.law(241), x -> x.law(LEAST),
            x -> x.law(MOST));
    }

    @Edge(promise = 8, says = SAYS)
    static void report(Due due) {
        refused(due, -1, x -> x.report(0), x -> x.report(-1), x -> x.report(41), x -> x.report(120), x -> x.report(121),
            x -> x.report(LEAST), x -> x.report(MOST));
    }

    @Edge(promise = 9, says = SAYS)
    static void months(Due due) {
        refused(due, -1, x -> x.months(0), x -> x.months(-1), x -> x.months(61), x -> x.months(LEAST), x -> x.months(MOST));
    }

    @Edge(promise = 10, says = SAYS)
    static void tried(Due due) {
        refused(due, -1, x -> x.tried(0, 0), x -> x.tried(61, 0), x -> x.tried(1, -1), x -> x.tried(1, 4), x -> x.tried(1, 9),
            x -> x.tried(1, 12), x -> x.tried(1, 16), x -> x.tried(LEAST, LEAST), x -> x.tried(MOST, MOST));
    }

    @Edge(promise = 11, says = SAYS)
    static void counted(Due due) {
        refused(due, -1, x -> x.counted(3, 0), x -> x.counted(0, 2), x -> x.counted(-1, 0), x -> x.counted(0, -1),
            x -> x.counted(6, 0), x -> x.counted(0, 6), x -> x.counted(LEAST, MOST));
    }

    @Edge(promise = 12, says = SAYS)
    static void figureIs(Due due) {
        refused(due, -1, x -> x.figureIs(2, 0), x -> x.figureIs(0, -1), x -> x.figureIs(0, 4), x -> x.figureIs(0, 9),
            x -> x.figureIs(0, 22), x -> x.figureIs(6, 0), x -> x.figureIs(-1, 0), x -> x.figureIs(LEAST, MOST),
            x -> x.figureIs(0, LEAST));
    }

    @Edge(promise = 13, says = SAYS)
    static void share(Due due) {
        refused(due, -1, x -> x.share(3, 5, 0), x -> x.share(0, -1, 0), x -> x.share(0, 1000, 0), x -> x.share(0, 5, -1),
            x -> x.share(0, 5, 4), x -> x.share(6, 5, 0), x -> x.share(LEAST, MOST, MOST));
    }

    @Edge(promise = 14, says = SAYS)
    static void loses(Due due) {
        refused(due, -1, x -> x.loses(-1, 0), x -> x.loses(4, 0), x -> x.loses(0, -1), x -> x.loses(0, 2),
            x -> x.loses(LEAST, MOST));
    }

    @Edge(promise = 15, says = SAYS)
    static void breaks(Due due) {
        refused(due, -1, x -> x.breaks(-1, 0), x -> x.breaks(1000, 0), x -> x.breaks(5, -1), x -> x.breaks(5, 4),
            x -> x.breaks(MOST, LEAST));
    }

    @Edge(promise = 16, says = SAYS)
    static void regions(Due due) {
        refused(due, -1, x -> x.regions(3), x -> x.regions(-1), x -> x.regions(6), x -> x.regions(101), x -> x.regions(LEAST));
    }

    @Edge(promise = 17, says = SAYS)
    static void table(Due due) {
        refused(due, -1, x -> x.table(0, 1, 10, 0), x -> x.table(1, 0, 10, 0), x -> x.table(8, 1, 10, 0),
            x -> x.table(1, 4, 10, 0), x -> x.table(1, 1, 1, 0), x -> x.table(1, 1, 51, 0), x -> x.table(1, 1, 10, 2),
            x -> x.table(1, 1, 10, -1), x -> x.table(-1, -1, 10, 0), x -> x.table(LEAST, MOST, 0, 0));
    }

    @Edge(promise = 18, says = SAYS)
    static void bled(Due due) {
        refused(due, -1, x -> x.bled(2, 0), x -> x.bled(0, 3), x -> x.bled(0, -1), x -> x.bled(6, 0), x -> x.bled(LEAST, MOST));
    }

    @Edge(promise = 19, says = SAYS)
    static void canComeOut(Due due) {
        refused(due, -1, x -> x.canComeOut(-1), x -> x.canComeOut(3), x -> x.canComeOut(LEAST), x -> x.canComeOut(MOST));
    }

    @Edge(promise = 20, says = SAYS)
    static void record(Due due) {
        untold(due, x -> x.record(-1, 0, 0, 0, 0), x -> x.record(20, 0, 0, 0, 0), x -> x.record(0, 6, 0, 0, 0),
            x -> x.record(0, -1, 0, 0, 0), x -> x.record(0, 0, 100, 0, 0), x -> x.record(0, 0, -1, 0, 0),
            x -> x.record(0, 0, 0, 24, 0), x -> x.record(0, 0, 0, -1, 0), x -> x.record(0, 0, 0, 0, 10),
            x -> x.record(0, 0, 0, 0, -1), x -> x.record(1, 0, 0, 0, 10), x -> x.record(LEAST, MOST, MOST, LEAST, MOST));
    }

    @Edge(promise = 21, says = SAYS)
    static void definition(Due due) {
        refused(due, -1, x -> x.definition(-1, 4), x -> x.definition(6, 4), x -> x.definition(0, 0), x -> x.definition(0, 41),
            x -> x.definition(0, 80), x -> x.definition(0, 81), x -> x.definition(1, -1), x -> x.definition(LEAST, MOST));
    }

    @Edge(promise = 22, says = SAYS)
    static void fallsUnder(Due due) {
        refused(due, -1, x -> x.fallsUnder(1), x -> x.fallsUnder(-1), x -> x.fallsUnder(6), x -> x.fallsUnder(LEAST));
    }

    @Edge(promise = 23, says = SAYS)
    static void joined(Due due) {
        refused(due, -1, x -> x.joined(-1, 0), x -> x.joined(21, 0), x -> x.joined(0, -1), x -> x.joined(0, 2),
            x -> x.joined(LEAST, MOST));
    }

    @Edge(promise = 24, says = SAYS)
    static void window(Due due) {
        refused(due, -1, x -> x.window(-1, 1, 0), x -> x.window(10, 1, 0), x -> x.window(1, 0, 0), x -> x.window(1, 21, 0),
            x -> x.window(1, 1, -1), x -> x.window(1, 1, 2), x -> x.window(LEAST, MOST, MOST));
    }

    @Edge(promise = 25, says = SAYS)
    static void middle(Due due) {
        refused(due, -1, x -> x.middle(-1, 0), x -> x.middle(10, 0), x -> x.middle(1, -1), x -> x.middle(1, 2),
            x -> x.middle(MOST, LEAST));
    }

    @Edge(promise = 26, says = SAYS)
    static void published(Due due) {
        refused(due, -1, x -> x.published(2, 0), x -> x.published(0, -1), x -> x.published(0, 8), x -> x.published(6, 0),
            x -> x.published(LEAST, MOST));
    }

    @Edge(promise = 27, says = SAYS)
    static void inARow(Due due) {
        refused(due, -1, x -> x.inARow(2), x -> x.inARow(-1), x -> x.inARow(6), x -> x.inARow(LEAST), x -> x.inARow(MOST));
    }

    @Edge(promise = 28, says = SAYS)
    static void halves(Due due) {
        refused(due, -1, x -> x.halves(-1), x -> x.halves(2), x -> x.halves(LEAST), x -> x.halves(MOST));
    }

    @Edge(promise = 29, says = SAYS)
    static void rising(Due due) {
        refused(due, -1, x -> x.rising(2, 0), x -> x.rising(0, -1), x -> x.rising(0, 12), x -> x.rising(0, 99),
            x -> x.rising(0, 101), x -> x.rising(6, 100), x -> x.rising(LEAST, MOST));
    }

    @Edge(promise = 30, says = SAYS)
    static void spaced(Due due) {
        refused(due, -1, x -> x.spaced(0, 5, 1), x -> x.spaced(13, 60, 1), x -> x.spaced(1, 0, 1), x -> x.spaced(1, 61, 1),
            x -> x.spaced(1, 5, 0), x -> x.spaced(1, 5, 21), x -> x.spaced(LEAST, MOST, MOST));
    }

    @Edge(promise = 31, says = SAYS)
    static void seed(Due due) {
        untold(due, x -> x.seed(-1), x -> x.seed(65536), x -> x.seed(LEAST), x -> x.seed(MOST));
    }

    @Edge(promise = 33, says = SAYS)
    static void undo(Due due) {
        YearFigures x = Due.office(2, 2);
        Due.law(x, "n3(1=1)");
        x.months(5);
        Due.feed(x, "a0+5");
        List<String> before = Scene.picture(x);
        due.is("none was KEPT", x.undo(), false);
        Scene.same(due, before, Scene.picture(x));
        due.is("still none was KEPT", x.undo(), false);
    }

    @Edge(promise = 34, says = SAYS)
    static void check(Due due) {
        refused(due, -2, x -> x.check(2, 0), x -> x.check(0, -1), x -> x.check(0, 7), x -> x.check(-1, 1), x -> x.check(6, 1),
            x -> x.check(LEAST, MOST));
    }

    @Edge(promise = 35, says = SAYS)
    static void count(Due due) {
        refused(due, -1, x -> x.count(-1), x -> x.count(13), x -> x.count(19), x -> x.count(23), x -> x.count(26),
            x -> x.count(33), x -> x.count(36), x -> x.count(LEAST), x -> x.count(MOST));
    }
}
