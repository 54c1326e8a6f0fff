/** Edges of promises 12, 29 and 30: what a figure is, rows that never fall, births that are spaced. */
final class FigureEdges {
    private FigureEdges() {
    }

    private static YearFigures row(int... happened) {
        YearFigures x = Due.office(1, 1);
        for (int many : happened) {
            Due.law(x, "n" + many + "(1=1)");
            x.months(1);
        }
        return x;
    }

    // ---- 12

    @Edge(promise = 12, says = "Of a told figure, what 0 TARGET")
    static void targetOfAToldFigure(Due due) {
        YearFigures x = new YearFigures();
        x.figure(0, 0);
        x.figure(5, 9999);
        due.is("the least", x.figureIs(0, 0), 0);
        due.is("the most", x.figureIs(5, 0), 9999);
        int[] whats = {0, 1, 2, 3, 10, 21};
        for (int what : whats) {
            due.is("figureIs(1, " + what + ")", x.figureIs(1, what), -1);
            for (int f : Due.outside(0, 5)) {
                due.is("figureIs(" + f + ", " + what + ")", x.figureIs(f, what), -1);
            }
        }
    }

    @Edge(promise = 12, says = "1 the COUNT in all told counties")
    static void countInAllToldCounties(Due due) {
        YearFigures x = Due.office(0, 1);
        due.is("no county", x.figureIs(0, 1), 0);
        for (int c = 0; c < 6; c++) {
            x.county(c, 0);
            Due.fill(x, c, 0);
            due.is("the most of " + (c + 1), x.figureIs(0, 1), 9999 * (c + 1));
        }
        Due.report(x, "f0-999;a0-0");
        due.is("less", x.figureIs(0, 1), 59994 - 999);
    }

    @Edge(promise = 12, says = "2 FORECAST (-2: no MONTH has gone by)")
    static void forecastWithoutAMonth(Due due) {
        YearFigures x = Due.office(1, 1);
        Due.law(x, "n3(1=1)");
        Due.report(x, "a0+5");
        due.is("no MONTH", x.figureIs(0, 2), -2);
        x.months(1);
        due.is("one MONTH", x.figureIs(0, 2), 36);
        x.months(10);
        due.is("eleven MONTHS", x.figureIs(0, 2), 36);
        x.months(1);
        due.is("none of the next YEAR", x.figureIs(0, 2), -2);
    }

    @Edge(promise = 12, says = "FORECAST of a figure: what happened in the MONTHS gone by (at least one), through how many, times 12, rounded to the "
        + "nearest (half up).")
    static void forecastRounded(Due due) {
        // 12 / 7 is 1.71, 24 / 7 3.43, 12 / 8 1.5, 36 / 8 4.5, 12 / 11 1.09, 72 / 11 6.55, 12 / 5 2.4, 36 / 5 7.2, 48 / 5 9.6
        int[][] all = {{1, 7, 2}, {2, 7, 3}, {1, 8, 2}, {3, 8, 5}, {1, 11, 1}, {6, 11, 7}, {1, 5, 2}, {3, 5, 7}, {4, 5, 10}, {0, 9, 0}};
        for (int[] one : all) {
            int[] happened = new int[one[1]];
            happened[0] = one[0];
            due.is(one[0] + " in " + one[1], row(happened).figureIs(0, 2), one[2]);
        }
        YearFigures most = Due.office(6, 1);
        Due.law(most, "n99(1=1);d10(1=1)");
        most.months(11);
        due.is("the most", most.figureIs(0, 2), 7200);
    }

    @Edge(promise = 12, says = "10 + m HISTORY of MONTH m; NONE for others.")
    static void historyOfMonthsAndNoOthers(Due due) {
        YearFigures x = row(1, 2, 3, 4, 5, 6, 7, 8, 9, 10, 11);
        for (int m = 0; m < 12; m++) {
            due.is("HISTORY of " + m, x.figureIs(0, 10 + m), m < 11 ? m + 1 : 0);
        }
        YearFigures last = Due.office(1, 6);
        Due.law(last, "n1+m(f=5)");
        last.months(11);
        for (int m = 0; m < 12; m++) {
            due.is("HISTORY of figure 5 of " + m, last.figureIs(5, 10 + m), m < 11 ? m + 1 : 0);
            due.is("HISTORY of figure 4 of " + m, last.figureIs(4, 10 + m), 0);
        }
        int[] others = {-1, 4, 5, 8, 9, 22, 23, 42, 100, 256, 10 + 256, 10 + 65536, Integer.MIN_VALUE, Integer.MAX_VALUE};
        for (int what : others) {
            due.is("figureIs(0, " + what + ")", x.figureIs(0, what), -1);
        }
    }

    // ---- 29

    private static void risen(Due due, YearFigures x, int cost, int... want) {
        due.is("how much", x.rising(0, 100), cost);
        for (int m = 0; m < 12; m++) {
            due.is("MONTH " + m, x.rising(0, m), want[m]);
        }
    }

    @Edge(promise = 29, says = "RISING: HISTORY of a figure (12 MONTHS) changed least (added up, each change by how much) so that it never falls")
    static void changedLeastSoThatItNeverFalls(Due due) {
        risen(due, row(), 0, 0, 0, 0, 0, 0, 0, 0, 0, 0, 0, 0, 0);
        risen(due, row(7), 7, 0, 0, 0, 0, 0, 0, 0, 0, 0, 0, 0, 0);
        risen(due, row(0, 0, 0, 0, 0, 0, 0, 0, 0, 0, 9), 9, 0, 0, 0, 0, 0, 0, 0, 0, 0, 0, 0, 0);
        risen(due, row(0, 0, 0, 0, 0, 0, 0, 0, 0, 8, 9), 9, 0, 0, 0, 0, 0, 0, 0, 0, 0, 8, 8, 8);
        risen(due, row(5, 5, 5, 5, 5, 5, 5, 5, 5, 5, 5), 5, 5, 5, 5, 5, 5, 5, 5, 5, 5, 5, 5, 5);
        risen(due, row(11, 10, 9, 8, 7, 6, 5, 4, 3, 2, 1), 36, 5, 5, 5, 5, 5, 5, 5, 5, 5, 5, 5, 5);
        risen(due, row(1, 2, 3, 4, 5, 6, 7, 8, 9, 10, 11), 11, 1, 2, 3, 4, 5, 6, 7, 8, 9, 10, 10, 10);
        risen(due, row(9, 0, 9, 9, 9, 9, 9, 9, 9, 9, 9), 18, 0, 0, 9, 9, 9, 9, 9, 9, 9, 9, 9, 9);
    }

    @Edge(promise = 29, says = "how much; the least row of these (0 to 9999 each).")
    static void theLeastRow(Due due) {
        // 7 and 3 may both be anything from 3 to 7, each for 4: the least is 3
        risen(due, row(7, 3, 9, 9, 9, 9, 9, 9, 9, 9, 9), 4 + 9, 3, 3, 9, 9, 9, 9, 9, 9, 9, 9, 9, 9);
        // six of 5, then six of 0: 30 for any from 0 to 5
        risen(due, row(5, 5, 5, 5, 5, 5), 30, 0, 0, 0, 0, 0, 0, 0, 0, 0, 0, 0, 0);
        // seven of 5 and five of 0: 5 for 25
        risen(due, row(5, 5, 5, 5, 5, 5, 5), 25, 5, 5, 5, 5, 5, 5, 5, 5, 5, 5, 5, 5);
        YearFigures most = Due.office(6, 1);
        Due.law(most, "n99(1=1);d10(1=1)");
        most.months(11);
        risen(due, most, 600, 600, 600, 600, 600, 600, 600, 600, 600, 600, 600, 600, 600);
    }

    @Edge(promise = 29, says = "RISING of a told figure, what 100 how much it is changed, else what MONTH what (0 to 11) is then")
    static void risingOfTheFirstAndTheLast(Due due) {
        YearFigures x = Due.office(2, 6);
        Due.law(x, "n1+m(f=5);n3(f=0)");
        x.months(11);
        due.is("figure 0", x.rising(0, 100), 6);
        due.is("figure 0, MONTH 0", x.rising(0, 0), 6);
        due.is("figure 0, MONTH 11", x.rising(0, 11), 6);
        due.is("figure 5", x.rising(5, 100), 22);
        due.is("figure 5, MONTH 0", x.rising(5, 0), 2);
        due.is("figure 5, MONTH 10", x.rising(5, 10), 20);
        due.is("figure 5, MONTH 11", x.rising(5, 11), 20);
        due.is("figure 1", x.rising(1, 100), 0);
    }

    @Edge(promise = 29, says = "NONE: no such ones.")
    static void risingOfNoSuchOnes(Due due) {
        YearFigures x = row(1, 2, 3);
        int[] wrong = {-1, 12, 13, 32, 99, 101, 100 + 256, 256, 65536, Integer.MIN_VALUE, Integer.MAX_VALUE};
        for (int what : wrong) {
            due.is("rising(0, " + what + ")", x.rising(0, what), -1);
        }
        due.is("a figure that is not told", x.rising(1, 100), -1);
        for (int f : Due.outside(0, 5)) {
            due.is("rising(" + f + ", 100)", x.rising(f, 100), -1);
            due.is("rising(" + f + ", 0)", x.rising(f, 0), -1);
        }
    }

    // ---- 30

    @Edge(promise = 30, says = "SPACED: ways for births (1 to 12) on so many DAYS (1 to 60), a gap (1 to 20)")
    static void spacedAtTheLeastAndTheMost(Due due) {
        YearFigures x = new YearFigures();
        due.is("the least of all", x.spaced(1, 1, 1), 1);
        due.is("the most of all", x.spaced(12, 60, 20), 0);
        due.is("one birth", x.spaced(1, 60, 20), 60);
        due.is("one birth on one DAY", x.spaced(1, 1, 20), 1);
    }

    @Edge(promise = 30, says = "NONE: no such ones.")
    static void spacedOfNoSuchOnes(Due due) {
        YearFigures x = new YearFigures();
        for (int births : Due.outside(1, 12)) {
            due.is("spaced(" + births + ", 60, 1)", x.spaced(births, 60, 1), -1);
        }
        for (int days : Due.outside(1, 60)) {
            due.is("spaced(1, " + days + ", 1)", x.spaced(1, days, 1), -1);
        }
        for (int gap : Due.outside(1, 20)) {
            due.is("spaced(1, 60, " + gap + ")", x.spaced(1, 60, gap), -1);
        }
    }

    @Edge(promise = 30, says = "SPACED: in how many ways so many births (1 to 12) fall on so many DAYS (1 to 60), each at least so many DAYS (1 to 20) "
        + "behind the one ahead.")
    static void spacedJustSo(Due due) {
        YearFigures x = new YearFigures();
        due.is("more than an int holds", x.spaced(12, 60, 1), 1399358844975L);
        due.is("12 on 12 DAYS", x.spaced(12, 12, 1), 1);
        due.is("12 on 11 DAYS", x.spaced(12, 11, 1), 0);
        due.is("12 on 60 DAYS, 5 apart", x.spaced(12, 60, 5), 1820);
        due.is("12 on 60 DAYS, 6 apart", x.spaced(12, 60, 6), 0);
        due.is("12 on 56 DAYS, 5 apart: one way", x.spaced(12, 56, 5), 1);
        due.is("12 on 55 DAYS, 5 apart: none", x.spaced(12, 55, 5), 0);
        due.is("12 on 60 DAYS, 20 apart", x.spaced(12, 60, 20), 0);
        due.is("2 on 21 DAYS, 20 apart", x.spaced(2, 21, 20), 1);
        due.is("2 on 20 DAYS, 20 apart", x.spaced(2, 20, 20), 0);
        due.is("3 on 60 DAYS, 20 apart", x.spaced(3, 60, 20), 1540);
        due.is("2 on 1 DAY", x.spaced(2, 1, 1), 0);
        due.is("2 on 1 DAY, 20 apart", x.spaced(2, 1, 20), 0);
    }

    @Edge(promise = 30, says = "each at least so many DAYS (1 to 20) behind the one ahead")
    static void spacedByCounting(Due due) {
        for (int gap = 1; gap <= 20; gap++) {
            for (int days = 1; days <= 60; days++) {
                YearFigures x = new YearFigures();
                // ways[b] by the day on which the last of b births falls
                long[][] ways = new long[13][61];
                for (int births = 1; births <= 12; births++) {
                    long all = 0;
                    for (int day = 1; day <= days; day++) {
                        ways[births][day] = births == 1 ? 1 : 0;
                        for (int ahead = 1; births > 1 && ahead <= day - gap; ahead++) {
                            ways[births][day] += ways[births - 1][ahead];
                        }
                        all += ways[births][day];
                    }
                    due.is("spaced(" + births + ", " + days + ", " + gap + ")", x.spaced(births, days, gap), all);
                }
            }
        }
    }
}
