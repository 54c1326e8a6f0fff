import java.util.List;

/** Edges of promises 9 and 10: months that go by or are tried, without what the staff does in December. */
final class MonthEdges {
    private MonthEdges() {
    }

    /** THE YEAR 998 and so many MONTHS. */
    private static YearFigures lateYear(int months, String law) {
        YearFigures x = Due.under(1, 1, law);
        for (int i = 0; i < 199; i++) {
            x.months(60);
        }
        x.months(36 + months);
        return x;
    }

    @Edge(promise = 9, says = "MONTHS (1 to 60) go by (as many as can): how many happened in all")
    static void monthsFrom1To60(Due due) {
        YearFigures x = Due.under(1, 1, "n2(1=1)");
        due.is("months(1)", x.months(1), 2);
        due.is("THE MONTH", x.count(1), 1);
        due.is("months(60)", x.months(60), 120);
        due.is("THE YEAR", x.count(0), 5);
        due.is("THE MONTH then", x.count(1), 1);
    }

    @Edge(promise = 9, says = "NONE: no such n.")
    static void monthsOutsideAreRefused(Due due) {
        YearFigures x = Due.under(1, 1, "n2(1=1)");
        for (int n : Due.outside(1, 60)) {
            due.is("months(" + n + ")", x.months(n), -1);
        }
        due.is("THE MONTH", x.count(1), 0);
        due.is("THE YEAR", x.count(0), 0);
        due.is("X", x.count(9), 1);
        due.is("COUNT", x.counted(0, 0), 0);
    }

    @Edge(promise = 9, says = "(COUNTED or not; the STAFF's aside)")
    static void whatHappensCountedOrNot(Due due) {
        YearFigures x = Due.under(2, 1, "n3(1=1);x(c=1)");
        x.figure(0, 50);
        due.is("COUNTED or not, the STAFF's aside", x.months(12), 72);
        due.is("36 were COUNTED and 14 made", x.published(0, 0), 50);
    }

    @Edge(promise = 9, says = "THE MONTH (0 to 11; 0 at first)")
    static void monthFrom0To11(Due due) {
        YearFigures x = Due.office(1, 1);
        for (int i = 0; i < 25; i++) {
            due.is("THE MONTH behind " + i, x.count(1), i % 12);
            due.is("THE YEAR behind " + i, x.count(0), i / 12);
            x.months(1);
        }
    }

    @Edge(promise = 9, says = "Else THE MONTH is one more.")
    static void elevenMonthsEndNoYear(Due due) {
        YearFigures x = Due.under(1, 1, "n2(1=1)");
        x.months(11);
        due.is("THE MONTH", x.count(1), 11);
        due.is("THE YEAR", x.count(0), 0);
        due.is("COUNT", x.counted(0, 0), 22);
        due.is("HISTORY", x.figureIs(0, 20), 2);
        due.is("PUBLISHED", x.published(0, 0), -2);
    }

    @Edge(promise = 9, says = "THE YEAR one more (999 at most: then no MONTH goes by)")
    static void theYear999(Due due) {
        YearFigures x = lateYear(0, "n1(1=1)");
        due.is("THE YEAR 998", x.count(0), 998);
        due.is("as many as can", x.months(60), 12);
        due.is("THE YEAR 999", x.count(0), 999);
        due.is("THE MONTH", x.count(1), 0);
        int drawn = x.count(9);
        due.is("no MONTH goes by", x.months(1), 0);
        due.is("nor 60", x.months(60), 0);
        due.is("THE MONTH still", x.count(1), 0);
        due.is("THE YEAR still", x.count(0), 999);
        due.is("X still", x.count(9), drawn);
        due.is("COUNT still", x.counted(0, 0), 0);
        YearFigures y = lateYear(11, "n1(1=1)");
        due.is("the last MONTH of all", y.months(2), 1);
        due.is("in THE YEAR 999", y.count(0), 999);
    }

    @Edge(promise = 9, says = "each told county, by numbers, and in it each told figure, by numbers")
    static void toldOnesByNumbers(Due due) {
        YearFigures none = Due.under(0, 0, "n5(1=1);d10(1=1)");
        due.is("without counties and figures", none.months(1), 0);
        due.is("THE MONTH goes by", none.count(1), 1);
        due.is("nothing is drawn", none.count(9), 1);
        YearFigures counties = Due.under(6, 0, "n5(1=1);d10(1=1)");
        due.is("without figures", counties.months(1), 0);
        due.is("nothing is drawn, too", counties.count(9), 1);
        YearFigures figures = Due.under(0, 6, "n5(1=1);d10(1=1)");
        due.is("without counties", figures.months(1), 0);
        due.is("nothing is drawn either", figures.count(9), 1);
        // the sum of a figure is asked when its county comes: 1, 2, 4 .. happen in a, b, c .., in each figure alike
        YearFigures x = Due.under(6, 6, "n1+s(1=1)");
        due.is("all told", x.months(1), 6 * 63);
        for (int c = 0; c < 6; c++) {
            for (int f = 0; f < 6; f++) {
                due.is("COUNT of " + c + " and " + f, x.counted(c, f), 1 << c);
            }
        }
        // draws from 1 are 2 7 6 5 2 9: county by county, in it figure by figure
        YearFigures drawn = Due.under(2, 3, "d6(1=1)");
        drawn.months(1);
        int[] want = {1, 0, 0, 1, 1, 0};
        for (int i = 0; i < 6; i++) {
            due.is("draw " + i, drawn.counted(i / 3, i % 3), want[i]);
        }
    }

    @Edge(promise = 9, says = "n happen, and with a DRAW below d (n, d asked ahead) one more")
    static void aDrawBelowD(Due due) {
        // the first draw from 1 is 39022: 2
        due.is("2 is below 3", Due.under(1, 1, "n5(1=1);d3(1=1)").months(1), 6);
        due.is("2 is not below 2", Due.under(1, 1, "n5(1=1);d2(1=1)").months(1), 5);
        due.is("99 and one more", Due.under(1, 1, "n99(1=1);d10(1=1)").months(1), 100);
        // d is asked with the count ahead of what happens
        due.is("d asked ahead", Due.under(1, 1, "n5(1=1);d10(a=0)").months(1), 6);
        due.is("a DRAW of 0 is below 1", zero().months(1), 1);
        YearFigures x = Due.under(1, 1, "d0(1=1)");
        x.months(1);
        due.is("a DRAW is made with d 0, too", x.count(9), 39022);
    }

    /** The next draw is 0. */
    private static YearFigures zero() {
        YearFigures x = Due.under(1, 1, "d1(1=1)");
        for (int seed = 0; seed <= 65535; seed++) {
            if ((25173L * seed + 13849) % 65536 % 10 == 0) {
                x.seed(seed);
                return x;
            }
        }
        return x;
    }

    @Edge(promise = 9, says = "X modulo 10")
    static void drawsAreFrom0To9(Due due) {
        // X 65535 is 5, 65530 to 65534 are 0 to 4: the seed that comes to each by its number
        for (int want = 65526; want <= 65535; want++) {
            int seed = 0;
            while ((25173L * seed + 13849) % 65536 != want) {
                seed++;
            }
            for (int d = 0; d <= 10; d++) {
                YearFigures x = Due.under(1, 1, "d" + d + "(1=1)");
                x.seed(seed);
                due.is("X " + want + " and d " + d, x.months(1), want % 10 < d ? 1 : 0);
            }
        }
    }

    @Edge(promise = 9, says = "if x does not hold (asked with what was so ahead), COUNT is so many more")
    static void xIsAskedAhead(Due due) {
        YearFigures x = Due.under(1, 1, "n4(1=1);x(a>3)");
        due.is("4 happen", x.months(1), 4);
        due.is("with 0 ahead they are COUNTED", x.counted(0, 0), 4);
        due.is("4 more happen", x.months(1), 4);
        due.is("with 4 ahead they are not", x.counted(0, 0), 4);
        due.is("nor are they in HISTORY", x.figureIs(0, 11), 0);
        YearFigures y = Due.under(2, 1, "n4(1=1);x(s=4)");
        y.months(1);
        due.is("COUNTED in a", y.counted(0, 0), 4);
        due.is("not COUNTED in b", y.counted(1, 0), 0);
    }

    @Edge(promise = 9, says = "HISTORY of the figure too. (9999 at most.)")
    static void countsOfMonthsStopAt9999(Due due) {
        YearFigures x = Due.under(1, 1, "n9(1=1)");
        Due.report(x, "a0+999;".repeat(10) + "a0+0");
        due.is("9 happen", x.months(1), 9);
        due.is("just to 9999", x.counted(0, 0), 9999);
        due.is("HISTORY", x.figureIs(0, 10), 9);
        due.is("9 more happen", x.months(1), 9);
        due.is("9999 at most", x.counted(0, 0), 9999);
        due.is("the figure in all", x.figureIs(0, 1), 9999);
        Due.report(x, "a0-4");
        due.is("and 9 more", x.months(1), 9);
        due.is("9999 again", x.counted(0, 0), 9999);
    }

    @Edge(promise = 9, says = "HISTORY of a figure: how many were COUNTED by each MONTH of this YEAR that went by (0 to 9999; 0 of others)")
    static void historyAtItsMost(Due due) {
        YearFigures x = Due.under(6, 1, "n99(1=1);d10(1=1)");
        x.months(11);
        for (int m = 0; m < 11; m++) {
            due.is("HISTORY of MONTH " + m, x.figureIs(0, 10 + m), 600);
        }
        due.is("of MONTH 11, which did not go by", x.figureIs(0, 21), 0);
        x.months(1);
        for (int m = 0; m < 12; m++) {
            due.is("HISTORY of MONTH " + m + " of the next YEAR", x.figureIs(0, 10 + m), 0);
        }
    }

    // ---- 10

    @Edge(promise = 10, says = "TRIED are n MONTHS by the DRAWS that will come (nothing is changed).")
    static void triedChangesNothing(Due due) {
        YearFigures x = Scene.full();
        List<String> before = Scene.picture(x);
        int[] tried = new int[4];
        for (int what = 0; what <= 3; what++) {
            tried[what] = x.tried(60, what);
        }
        int behind = x.tried(7, 10);
        Scene.same(due, before, Scene.picture(x));
        due.is("by the DRAWS that come", x.months(7) + x.months(53), tried[0]);
        due.is("more than none", tried[0] > 0 && tried[1] > 0 && tried[2] > 0 && tried[3] > 0, true);
        YearFigures y = Scene.full();
        y.months(7);
        due.is("the COUNT then", y.figureIs(0, 1), behind);
    }

    @Edge(promise = 10, says = "MONTHS (1 to 60; as many as can) that are tried, what 0 as months()")
    static void triedFrom1To60(Due due) {
        YearFigures x = Due.under(1, 1, "n2(1=1)");
        due.is("tried(1, 0)", x.tried(1, 0), 2);
        due.is("tried(60, 0)", x.tried(60, 0), 120);
        for (int n : Due.outside(1, 60)) {
            for (int what = 0; what <= 3; what++) {
                due.is("tried(" + n + ", " + what + ")", x.tried(n, what), -1);
            }
            due.is("tried(" + n + ", 10)", x.tried(n, 10), -1);
        }
        YearFigures late = lateYear(9, "n2(1=1)");
        due.is("as many as can", late.tried(60, 0), 6);
        late.months(3);
        due.is("none in THE YEAR 999", late.tried(60, 0), 0);
        due.is("none came out in it", late.tried(60, 1), 0);
        due.is("0 is the COUNT in it", late.tried(60, 10), 0);
    }

    @Edge(promise = 10, says = "1 CAME OUT in them")
    static void cameOutInThem(Due due) {
        YearFigures x = Due.under(1, 2, "n1(m=0&f=0)");
        x.figure(0, 1);
        x.figure(1, 0);
        x.months(24);
        due.is("ahead of them", x.count(4), 4);
        due.is("11 MONTHS end no YEAR", x.tried(11, 1), 0);
        due.is("12 do", x.tried(12, 1), 2);
        due.is("60", x.tried(60, 1), 10);
    }

    @Edge(promise = 10, says = "2 DAYS of STAFF that were used in them, 3 how many the STAFF made")
    static void usedAndMadeInThem(Due due) {
        YearFigures x = Due.under(1, 6, "k1(1=1)");
        for (int f = 0; f < 6; f++) {
            x.figure(f, 9999);
        }
        x.staff(9999);
        due.is("11 MONTHS: no DAYS", x.tried(11, 2), 0);
        due.is("11 MONTHS: none", x.tried(11, 3), 0);
        due.is("the most in 12", x.tried(12, 2), 1200);
        due.is("the most in 60", x.tried(60, 2), 6000);
        due.is("the most that are made", x.tried(60, 3), 6000);
        Due.law(x, "k0(1=1)");
        due.is("for no DAYS", x.tried(60, 2), 0);
        due.is("as many", x.tried(60, 3), 6000);
        x.staff(0);
        due.is("for no DAYS without a STAFF, too", x.tried(60, 3), 6000);
        Due.law(x, "k1(1=1)");
        due.is("not for one", x.tried(60, 3), 0);
    }

    @Edge(promise = 10, says = "10 + f the COUNT of told figure f in all counties then; NONE: no such ones.")
    static void theCountThen(Due due) {
        YearFigures x = Due.under(6, 6, "n1+f(1=1)");
        due.is("figure 0 behind 11", x.tried(11, 10), 66);
        due.is("figure 5 behind 11", x.tried(11, 15), 6 * 66);
        due.is("behind 12 it is 0 again", x.tried(12, 15), 0);
        due.is("behind 13", x.tried(13, 15), 36);
        int[] wrong = {-1, 4, 5, 9, 16, 17, 42, 10 + 256, 10 + 65536, Integer.MIN_VALUE, Integer.MIN_VALUE + 9, Integer.MAX_VALUE};
        for (int what : wrong) {
            due.is("tried(1, " + what + ")", x.tried(1, what), -1);
        }
        YearFigures y = Due.under(1, 5, "n1(1=1)");
        due.is("the last told figure", y.tried(1, 14), 1);
        due.is("one that is not told", y.tried(1, 15), -1);
        YearFigures full = Due.under(6, 1, "n0(1=1)");
        for (int c = 0; c < 6; c++) {
            Due.fill(full, c, 0);
        }
        due.is("the most", full.tried(1, 10), 59994);
    }
}
