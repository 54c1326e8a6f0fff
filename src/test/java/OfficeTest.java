/** Promises 1 to 5, 11, 16, 31 and 35: a new object, counties, figures, the staff, regions, the seed, counts. */
public final class OfficeTest {
    private static final Due DUE = new Due("OfficeTest");

    public static void main(String[] args) {
        newObject();
        counties();
        neighbours();
        figures();
        staff();
        counted();
        regions();
        seed();
        counts();
        DUE.end();
    }

    private static void newObject() {
        YearFigures x = new YearFigures();
        for (int what = 0; what <= 12; what++) {
            DUE.is("new: count(" + what + ")", x.count(what), what == 9 ? 1 : 0);
        }
        for (int i = 0; i < 6; i++) {
            DUE.is("new: count(20 + " + i + ")", x.count(20 + i), -1);
            DUE.is("new: count(30 + " + i + ")", x.count(30 + i), -1);
            DUE.is("new: counted", x.counted(i, i), -1);
            DUE.is("new: figureIs", x.figureIs(i, 0), -1);
            DUE.is("new: fallsUnder", x.fallsUnder(i), -1);
            DUE.is("new: published", x.published(i, 0), -1);
            DUE.is("new: inARow", x.inARow(i), -1);
            DUE.is("new: share", x.share(i, 10, 0), -1);
            DUE.is("new: regions", x.regions(i), -1);
        }
        DUE.is("new: undo", x.undo(), false);
        DUE.is("new: months", x.months(60), 0);
        DUE.is("new: the year behind 60 months", x.count(0), 5);
        DUE.is("new: X is not drawn", x.count(9), 1);
        DUE.is("new: canComeOut", x.canComeOut(0), 0);
        DUE.is("new: halves", x.halves(1), 0);
        DUE.is("new: joined(0, 1)", x.joined(0, 1), 0);
        DUE.is("new: joined(1, 1)", x.joined(1, 1), -2);
        DUE.is("new: regions(100)", x.regions(100), 0);
        DUE.is("new: breaks", x.breaks(5, 1), 0);
        DUE.is("new: loses", x.loses(0, 0), -2);
        DUE.is("NONE", YearFigures.NONE, -1);
    }

    private static void counties() {
        YearFigures x = new YearFigures();
        DUE.is("county(-1, 5)", x.county(-1, 5), false);
        DUE.is("county(6, 5)", x.county(6, 5), false);
        DUE.is("county(0, -1)", x.county(0, -1), false);
        DUE.is("county(0, 10000)", x.county(0, 10000), false);
        DUE.is("none told", x.count(2), 0);
        DUE.is("county(5, 9999)", x.county(5, 9999), true);
        DUE.is("county(0, 0)", x.county(0, 0), true);
        DUE.is("told", x.count(2), 33);
        DUE.is("people of f", x.count(35), 9999);
        DUE.is("people of a", x.count(30), 0);
        x.figure(0, 100);
        x.next(0, 5, true);
        Due.report(x, "a0+7");
        DUE.is("county(0, 12)", x.county(0, 12), true);
        DUE.is("people in place of those before", x.count(30), 12);
        DUE.is("all people", x.count(12), 10011);
        DUE.is("COUNTS stay", x.counted(0, 0), 7);
        DUE.is("NEXT stays", x.count(20), 32);
        DUE.is("a refused county", x.county(0, -5), false);
        DUE.is("changes nothing", x.count(30), 12);
    }

    private static void neighbours() {
        YearFigures x = Due.office(4, 0);
        DUE.is("next(0, 0)", x.next(0, 0, true), false);
        DUE.is("next(0, 4) not told", x.next(0, 4, true), false);
        DUE.is("next(4, 0) not told", x.next(4, 0, true), false);
        DUE.is("next(-1, 0)", x.next(-1, 0, true), false);
        DUE.is("next(0, 6)", x.next(0, 6, true), false);
        DUE.is("next(0, 3)", x.next(0, 3, true), true);
        DUE.is("next(0, 2)", x.next(0, 2, true), true);
        DUE.is("NEXT to a", x.count(20), 12);
        DUE.is("NEXT to b", x.count(21), 0);
        DUE.is("NEXT to d", x.count(23), 1);
        DUE.is("next(3, 0) not", x.next(3, 0, false), true);
        DUE.is("NEXT to a behind that", x.count(20), 4);
        DUE.is("NEXT to d behind that", x.count(23), 0);
        DUE.is("next not, again", x.next(3, 0, false), true);
    }

    private static void figures() {
        YearFigures x = Due.office(1, 0);
        DUE.is("figure(-1, 5)", x.figure(-1, 5), false);
        DUE.is("figure(6, 5)", x.figure(6, 5), false);
        DUE.is("figure(0, -1)", x.figure(0, -1), false);
        DUE.is("figure(0, 10000)", x.figure(0, 10000), false);
        DUE.is("none told", x.count(3), 0);
        DUE.is("figure(5, 9999)", x.figure(5, 9999), true);
        DUE.is("figure(1, 0)", x.figure(1, 0), true);
        DUE.is("told", x.count(3), 34);
        DUE.is("TARGET", x.figureIs(5, 0), 9999);
        Due.report(x, "a5+9");
        DUE.is("figure(5, 8)", x.figure(5, 8), true);
        DUE.is("TARGET in place of that before", x.figureIs(5, 0), 8);
        DUE.is("COUNTS stay", x.counted(0, 5), 9);
    }

    private static void staff() {
        YearFigures x = Due.office(1, 1);
        DUE.is("staff(-1)", x.staff(-1), false);
        DUE.is("staff(10000)", x.staff(10000), false);
        DUE.is("no STAFF", x.count(6), 0);
        DUE.is("staff(9999)", x.staff(9999), true);
        DUE.is("STAFF", x.count(6), 9999);
        DUE.is("all left", x.count(5), 9999);
        DUE.is("staff(0)", x.staff(0), true);
        DUE.is("none left", x.count(5), 0);
    }

    private static void counted() {
        YearFigures x = Due.office(2, 2);
        Due.report(x, "b1+12;a0+3");
        DUE.is("counted(1, 1)", x.counted(1, 1), 12);
        DUE.is("counted(0, 0)", x.counted(0, 0), 3);
        DUE.is("counted(0, 1)", x.counted(0, 1), 0);
        DUE.is("counted(2, 0)", x.counted(2, 0), -1);
        DUE.is("counted(0, 2)", x.counted(0, 2), -1);
        DUE.is("counted(-1, 0)", x.counted(-1, 0), -1);
        DUE.is("counted(0, 6)", x.counted(0, 6), -1);
        DUE.is("counted(least, most)", x.counted(Integer.MIN_VALUE, Integer.MAX_VALUE), -1);
    }

    private static void regions() {
        YearFigures x = Due.office(5, 0);
        DUE.is("each alone", x.regions(100), 5);
        DUE.is("c alone", x.regions(2), 4);
        x.next(4, 3, true);
        x.next(3, 0, true);
        DUE.is("regions(100)", x.regions(100), 3);
        DUE.is("a by d to e", x.regions(0), 25);
        DUE.is("e by d to a", x.regions(4), 25);
        DUE.is("b", x.regions(1), 2);
        DUE.is("f is not told", x.regions(5), -1);
        DUE.is("regions(6)", x.regions(6), -1);
        DUE.is("regions(99)", x.regions(99), -1);
        DUE.is("regions(-1)", x.regions(-1), -1);
        YearFigures chain = Due.office(6, 0);
        int[] order = {5, 0, 4, 1, 3, 2};
        for (int i = 0; i < 5; i++) {
            chain.next(order[i], order[i + 1], true);
        }
        DUE.is("a chain is one region", chain.regions(100), 1);
        DUE.is("a chain from its end", chain.regions(5), 63);
        DUE.is("a chain from its other end", chain.regions(2), 63);
    }

    private static void seed() {
        YearFigures x = Due.office(1, 1);
        DUE.is("seed(-1)", x.seed(-1), false);
        DUE.is("seed(65536)", x.seed(65536), false);
        DUE.is("X stays", x.count(9), 1);
        DUE.is("seed(65535)", x.seed(65535), true);
        DUE.is("X", x.count(9), 65535);
        x.months(1);
        // 25173 * 65535 + 13849 is -25173 + 13849 modulo 65536
        DUE.is("X behind a draw", x.count(9), 65536 - 25173 + 13849);
        DUE.is("seed(0)", x.seed(0), true);
        x.months(1);
        DUE.is("X behind a draw from 0", x.count(9), 13849);
    }

    private static void counts() {
        YearFigures x = Due.office(3, 2);
        x.staff(77);
        Due.law(x, "n1(1=1);k2(1=1)");
        x.record(3, 0, 0, 0, 0);
        Due.definition(x, 4, "(g=0)");
        x.months(1);
        Due.feed(x, "x");
        int[] due = {0, 1, 7, 3, 0, 77, 77, 2, 20, x.count(9), 8, 16, 30};
        for (int what = 0; what < due.length; what++) {
            DUE.is("count(" + what + ")", x.count(what), due[what]);
        }
        int[] none = {-1, 13, 19, 23, 26, 29, 33, 36, 100, Integer.MAX_VALUE, Integer.MIN_VALUE};
        for (int what : none) {
            DUE.is("count(" + what + ")", x.count(what), -1);
        }
        DUE.is("count(22)", x.count(22), 0);
        DUE.is("count(32)", x.count(32), 10);
    }
}
