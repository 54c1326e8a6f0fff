import java.util.List;

/** Edges of promises 26, 27, 32 and 33: what was published, how often in a row, what is kept and undone. */
final class YearEdges {
    private YearEdges() {
    }

    /** Figure 0 is 1 in the first YEAR, 2 in the second and so on; nothing is made. */
    private static YearFigures rising(int years) {
        YearFigures x = Due.office(1, 1);
        x.figure(0, 0);
        Due.law(x, "n1+y(m=0)");
        for (int i = 0; i < years; i++) {
            x.months(12);
        }
        return x;
    }

    @Edge(promise = 26, says = "PUBLISHED of a told figure so many YEARS back (0 to 7)")
    static void publishedFrom0To7Back(Due due) {
        YearFigures x = rising(9);
        for (int back = 0; back <= 7; back++) {
            due.is("published(0, " + back + ")", x.published(0, back), 9 - back);
        }
        for (int back : Due.outside(0, 7)) {
            due.is("published(0, " + back + ")", x.published(0, back), -1);
        }
    }

    @Edge(promise = 26, says = "PUBLISHED: what a figure was so many YEARS back (0: last; the last 8 are remembered;")
    static void theLast8AreRemembered(Due due) {
        for (int years = 0; years <= 10; years++) {
            YearFigures x = rising(years);
            for (int back = 0; back <= 7; back++) {
                due.is(back + " back behind " + years, x.published(0, back), back < years ? years - back : -2);
            }
        }
    }

    @Edge(promise = 26, says = "-2: there were not so many, it was not told then")
    static void notSoManyOrNotToldThen(Due due) {
        YearFigures x = rising(2);
        due.is("2 back", x.published(0, 2), -2);
        due.is("7 back", x.published(0, 7), -2);
        x.figure(5, 0);
        due.is("not told then", x.published(5, 0), -2);
        x.months(12);
        due.is("told then", x.published(5, 0), 3);
        due.is("not told the YEAR before", x.published(5, 1), -2);
        due.is("0 is what it was", zeroYear().published(0, 0), 0);
    }

    private static YearFigures zeroYear() {
        YearFigures x = new YearFigures();
        x.figure(0, 0);
        x.months(12);
        return x;
    }

    @Edge(promise = 26, says = "nothing of a figure that was not told then)")
    static void nothingOfAFigureThatWasNotTold(Due due) {
        YearFigures x = rising(1);
        for (int f = 1; f < 6; f++) {
            x.figure(f, 0);
            due.is("figure " + f, x.published(f, 0), -2);
        }
        x.months(60);
        x.months(24);
        due.is("7 back it was not told", x.published(5, 7), -2);
        due.is("6 back it was", x.published(5, 6), 2);
    }

    @Edge(promise = 26, says = "NONE: no such ones.")
    static void publishedOfNoSuchOnes(Due due) {
        YearFigures x = rising(1);
        due.is("one that is not told now", x.published(1, 0), -1);
        for (int f : Due.outside(0, 5)) {
            due.is("published(" + f + ", 0)", x.published(f, 0), -1);
        }
    }

    @Edge(promise = 27, says = "IN A ROW: how many of the last YEARS, from the last one back (8 at most), it was at its TARGET as that is now.")
    static void inARowAtMost8(Due due) {
        YearFigures x = Due.office(1, 1);
        x.figure(0, 1);
        Due.law(x, "n1(m=0)");
        for (int years = 0; years <= 10; years++) {
            due.is("behind " + years, x.inARow(0), Math.min(8, years));
            x.months(12);
        }
        x.figure(0, 2);
        due.is("by TARGET as it is now", x.inARow(0), 0);
        x.figure(0, 1);
        due.is("and now", x.inARow(0), 8);
    }

    @Edge(promise = 27, says = "from the last one back")
    static void inARowFromTheLastOneBack(Due due) {
        YearFigures x = Due.office(1, 1);
        x.figure(0, 1);
        Due.law(x, "n1(m=0&y%4<3);n2(m=0)");
        int[] want = {0, 1, 2, 3, 0, 1, 2, 3, 0};
        for (int years = 0; years < want.length; years++) {
            due.is("behind " + years, x.inARow(0), want[years]);
            x.months(12);
        }
    }

    @Edge(promise = 27, says = "IN A ROW of a told figure")
    static void inARowOfAFigureThatWasNotTold(Due due) {
        YearFigures x = zeroYear();
        x.figure(5, 0);
        due.is("not told then", x.inARow(5), 0);
        x.months(24);
        due.is("told since", x.inARow(5), 2);
        due.is("told from the first YEAR on", x.inARow(0), 3);
    }

    @Edge(promise = 27, says = "NONE: no such one.")
    static void inARowOfNoSuchOne(Due due) {
        YearFigures x = zeroYear();
        due.is("told", x.inARow(0), 1);
        due.is("not told", x.inARow(1), -1);
        x.figure(1, 0);
        due.is("not told then", x.inARow(1), 0);
        for (int f : Due.outside(0, 5)) {
            due.is("inARow(" + f + ")", x.inARow(f), -1);
        }
    }

    @Edge(promise = 32, says = "KEPT: THE YEAR.")
    static void keepTellsTheYear(Due due) {
        YearFigures x = Due.office(1, 1);
        due.is("at first", x.keep(), 0);
        x.months(11);
        due.is("in MONTH 11", x.keep(), 0);
        x.months(1);
        due.is("in January", x.keep(), 1);
        for (int i = 0; i < 199; i++) {
            x.months(60);
        }
        x.months(60);
        due.is("at the end", x.keep(), 999);
    }

    @Edge(promise = 32, says = "KEPT: COUNTS, HISTORY, THE MONTH, THE YEAR, DAYS of STAFF that are left, CAME OUT, what was PUBLISHED, X")
    static void allThatIsKept(Due due) {
        YearFigures x = Due.office(2, 2);
        x.figure(1, 0);
        x.staff(30);
        Due.law(x, "n1+c(f=0);d5(f=0);k1(1=1)");
        x.months(26);
        Due.report(x, "a0+5");
        List<String> before = Scene.picture(x);
        x.keep();
        due.is("it came out", x.count(4), 2);
        x.months(60);
        Due.report(x, "b1+5");
        x.seed(7);
        x.undo();
        Scene.same(due, before, Scene.picture(x));
        x.staff(40);
        x.undo();
        due.is("DAYS that were left", x.count(5), 30);
        due.is("the STAFF is not KEPT", x.count(6), 40);
    }

    @Edge(promise = 32, says = "HISTORY, THE MONTH, THE YEAR")
    static void historyIsKept(Due due) {
        YearFigures x = Due.office(2, 6);
        Due.law(x, "n1+m(f=5);n7(f=0)");
        x.months(5);
        x.keep();
        Due.law(x, "n50+m(f=5);n90(f=0)");
        x.months(21);
        due.is("HISTORY then", x.figureIs(5, 10), 100);
        x.undo();
        for (int m = 0; m < 12; m++) {
            due.is("HISTORY of 5 of " + m, x.figureIs(5, 10 + m), m < 5 ? 2 + 2 * m : 0);
            due.is("HISTORY of 0 of " + m, x.figureIs(0, 10 + m), m < 5 ? 14 : 0);
        }
        due.is("FORECAST", x.figureIs(5, 2), 72);
        due.is("RISING", x.rising(5, 100), 30);
        due.is("THE MONTH", x.count(1), 5);
        due.is("THE YEAR", x.count(0), 0);
    }

    @Edge(promise = 33, says = "UNDONE: true; false: none was KEPT.")
    static void undoneOnlyWhatWasKept(Due due) {
        YearFigures x = Due.office(1, 1);
        due.is("none was KEPT", x.undo(), false);
        x.months(1);
        due.is("still none", x.undo(), false);
        due.is("nothing is changed", x.count(1), 1);
        x.keep();
        due.is("one was", x.undo(), true);
        due.is("nothing went by behind it", x.count(1), 1);
        x.months(5);
        due.is("again", x.undo(), true);
        due.is("THE MONTH", x.count(1), 1);
    }

    @Edge(promise = 33, says = "UNDONE: as they were KEPT last.")
    static void undoneAsKeptLast(Due due) {
        YearFigures x = Due.office(1, 1);
        x.keep();
        x.months(3);
        x.keep();
        x.months(20);
        due.is("undo", x.undo(), true);
        due.is("the last that was KEPT, not the first", x.count(1), 3);
        due.is("undo again", x.undo(), true);
        due.is("not the one before", x.count(1), 3);
        x.months(60);
        x.keep();
        due.is("as KEPT now", x.undo(), true);
        due.is("THE YEAR", x.count(0), 5);
        for (int i = 0; i < 200; i++) {
            x.months(60);
        }
        due.is("at the end", x.count(0), 999);
        x.undo();
        due.is("back from the end", x.count(0), 5);
        x.months(1);
        due.is("MONTHS go by again", x.count(1), 4);
    }

    @Edge(promise = 33, says = "UNDONE: as they were KEPT last")
    static void whatIsNotUndone(Due due) {
        YearFigures x = Due.office(1, 1);
        x.keep();
        x.county(0, 77);
        x.county(5, 5);
        x.next(0, 5, true);
        x.figure(0, 7);
        x.figure(5, 5);
        Due.law(x, "n1(1=1)");
        x.record(3, 0, 0, 0, 0);
        Due.definition(x, 2, "(1=1)");
        x.feed(0, 0, 0, 0, 0);
        due.is("undo", x.undo(), true);
        due.is("counties", x.count(2), 33);
        due.is("PEOPLE", x.count(30), 77);
        due.is("NEXT", x.count(20), 32);
        due.is("figures", x.count(3), 33);
        due.is("TARGET", x.figureIs(0, 0), 7);
        due.is("RULES", x.count(7), 1);
        due.is("RECORDS", x.count(10), 8);
        due.is("DEFINITIONS", x.count(11), 4);
        due.is("the tape", x.count(8), 20);
        due.is("COUNTS of what is told since", x.counted(5, 5), 0);
    }
}
