/** Promises 9, 10, 12, 26, 27, 32 and 33: months, tried ones, figures, what is published, kept and undone. */
public final class MonthsTest {
    private static final Due DUE = new Due("MonthsTest");

    public static void main(String[] args) {
        wrongOnes();
        draws();
        history();
        december();
        staffByYear();
        atMost();
        notCounted();
        tried();
        published();
        inARow();
        lastYear();
        keptAndUndone();
        DUE.end();
    }

    private static void wrongOnes() {
        YearFigures x = Due.office(1, 1);
        Due.law(x, "n1(1=1)");
        int[] wrong = {0, -1, 61, Integer.MAX_VALUE, Integer.MIN_VALUE};
        for (int n : wrong) {
            DUE.is("months(" + n + ")", x.months(n), -1);
            DUE.is("tried(" + n + ", 0)", x.tried(n, 0), -1);
        }
        int[] whats = {-1, 4, 9, 11, 16, 100, Integer.MIN_VALUE};
        for (int what : whats) {
            DUE.is("tried(1, " + what + ")", x.tried(1, what), -1);
        }
        int[] others = {-1, 4, 9, 22, 100, Integer.MIN_VALUE};
        for (int what : others) {
            DUE.is("figureIs(0, " + what + ")", x.figureIs(0, what), -1);
        }
        DUE.is("figureIs(1, 0)", x.figureIs(1, 0), -1);
        DUE.is("figureIs(-1, 0)", x.figureIs(-1, 0), -1);
        DUE.is("figureIs(6, 0)", x.figureIs(6, 0), -1);
        DUE.is("no month went by", x.count(1), 0);
        DUE.is("nothing was drawn", x.count(9), 1);
    }

    private static void draws() {
        // X from 1: 39022, 61087, 20196, 45005, 3882, 21259
        YearFigures x = Due.office(2, 1);
        Due.law(x, "d6(1=1)");
        DUE.is("2 is below 6, 7 is not", x.months(1), 1);
        DUE.is("a", x.counted(0, 0), 1);
        DUE.is("b", x.counted(1, 0), 0);
        DUE.is("X", x.count(9), 61087);
        DUE.is("6 is not below 6, 5 is", x.months(1), 1);
        DUE.is("a behind it", x.counted(0, 0), 1);
        DUE.is("b behind it", x.counted(1, 0), 1);
        DUE.is("X behind it", x.count(9), 45005);
        YearFigures y = Due.office(3, 2);
        y.months(1);
        DUE.is("a DRAW for each county and figure, without a d too", y.count(9), 21259);
    }

    private static void history() {
        YearFigures x = Due.office(3, 2);
        Due.law(x, "n3+m(f=0);n1(1=1)");
        DUE.is("FORECAST ahead of all", x.figureIs(0, 2), -2);
        DUE.is("months(2)", x.months(2), 9 + 3 + 12 + 3);
        DUE.is("MONTH", x.count(1), 2);
        DUE.is("HISTORY 0", x.figureIs(0, 10), 9);
        DUE.is("HISTORY 1", x.figureIs(0, 11), 12);
        DUE.is("HISTORY 2", x.figureIs(0, 12), 0);
        DUE.is("HISTORY 11", x.figureIs(0, 21), 0);
        DUE.is("HISTORY of figure 1", x.figureIs(1, 11), 3);
        DUE.is("COUNT in all", x.figureIs(0, 1), 21);
        DUE.is("FORECAST", x.figureIs(0, 2), 126);
        Due.report(x, "a0+50");
        DUE.is("COUNT in all with a report", x.figureIs(0, 1), 71);
        DUE.is("FORECAST without it", x.figureIs(0, 2), 126);
        // rounded: 1 in 7 months is 12 / 7 = 1.71; 3 in 8 is 4.5, half up; 1 in 5 is 2.4
        YearFigures y = Due.office(1, 1);
        Due.law(y, "n1(m=0)");
        DUE.is("one MONTH is enough", y.months(1) + y.figureIs(0, 2), 13);
        y.months(6);
        DUE.is("1.71 is 2", y.figureIs(0, 2), 2);
        y.months(5);
        Due.law(y, "n1(m<3)");
        y.months(8);
        DUE.is("4.5 is 5", y.figureIs(0, 2), 5);
        y.months(4);
        Due.law(y, "n1(m=0)");
        y.months(5);
        DUE.is("2.4 is 2", y.figureIs(0, 2), 2);
    }

    private static void december() {
        YearFigures x = Due.office(3, 2);
        x.figure(0, 10);
        x.figure(1, 7);
        x.staff(20);
        // the cheapest is b with 2 until it has two more than others, then by a, of like ones the lowest
        Due.law(x, "k2+3*a(c=1);k4(1=1)");
        DUE.is("DAYS of figure 0 alone", x.figureIs(0, 3), 2 + 9 * 4);
        DUE.is("happened", x.months(12), 0);
        // 2 + 4 * 4 = 18 with 5 more; the next of figure 0 would be 4, and figure 1 has its first in b for 2
        DUE.is("figure 0", x.published(0, 0), 5);
        DUE.is("figure 1", x.published(1, 0), 1);
        DUE.is("none came out", x.count(4), 0);
        DUE.is("DAYS again", x.count(5), 20);
        DUE.is("YEAR", x.count(0), 1);
        DUE.is("MONTH", x.count(1), 0);
        DUE.is("COUNTS again", x.figureIs(0, 1), 0);
        YearFigures y = Due.office(2, 1);
        y.figure(0, 2);
        y.staff(9);
        Due.law(y, "n1(m=11);k5(1=1);k1(m=11)");
        DUE.is("at TARGET the STAFF does nothing", y.tried(12, 3), 0);
        DUE.is("it came out", y.tried(12, 1), 1);
        Due.law(y, "n1(m=3);k9(m<11);k3(m=11)");
        Due.report(y, "a0+1");
        DUE.is("above TARGET the STAFF does nothing", y.tried(12, 3), 0);
        DUE.is("above TARGET it did not come out", y.tried(12, 1), 0);
        Due.report(y, "a0-1");
        y.figure(0, 4);
        DUE.is("k is asked in December", y.tried(12, 2), 6);
        DUE.is("for each", y.tried(12, 3), 2);
        DUE.is("and it came out", y.tried(12, 1), 1);
        y.staff(5);
        DUE.is("as many as DAYS are left", y.tried(12, 2), 3);
        DUE.is("it did not come out", y.tried(12, 1), 0);
    }

    private static void staffByYear() {
        YearFigures x = Due.office(1, 1);
        x.figure(0, 3);
        x.staff(6);
        Due.law(x, "k2(1=1)");
        DUE.is("each YEAR anew", x.tried(36, 2), 18);
        DUE.is("made", x.tried(36, 3), 9);
        DUE.is("CAME OUT", x.tried(36, 1), 3);
        x.months(12);
        DUE.is("CAME OUT in them", x.tried(24, 1), 2);
        DUE.is("CAME OUT in all", x.count(4), 1);
        x = Due.office(1, 1);
        x.figure(0, 3);
        x.staff(6);
        Due.law(x, "k2+y(1=1)");
        DUE.is("y is the YEAR", x.tried(24, 2), 6 + 6);
        DUE.is("made with y", x.tried(24, 3), 3 + 2);
    }

    private static void atMost() {
        YearFigures x = Due.office(1, 2);
        x.figure(0, 201);
        x.figure(1, 5);
        DUE.is("200 times for 0 DAYS, then the next figure", x.tried(12, 3), 205);
        DUE.is("more than 200 more: it can't", x.figureIs(0, 3), -2);
        x.figure(0, 200);
        DUE.is("200 more: it can", x.figureIs(0, 3), 0);
        x.months(12);
        DUE.is("published", x.published(0, 0), 200);
        for (int i = 0; i < 11; i++) {
            Due.report(x, "a0+999");
        }
        Due.law(x, "n7(f=0)");
        DUE.is("happened", x.months(1), 7);
        DUE.is("9999 at most", x.counted(0, 0), 9999);
        DUE.is("HISTORY", x.figureIs(0, 10), 7);
        YearFigures none = Due.office(0, 1);
        DUE.is("without a county the STAFF does nothing", none.tried(12, 3), 0);
        DUE.is("it can't", none.figureIs(0, 3), -2);
        none.figure(0, 0);
        DUE.is("0 is at TARGET", none.tried(12, 1), 1);
        DUE.is("0 needs none", none.figureIs(0, 3), 0);
    }

    private static void notCounted() {
        YearFigures x = Due.office(2, 2);
        Due.law(x, "n4(1=1);d10(1=1);x(f=1&c=0)");
        DUE.is("all happened", x.months(1), 20);
        DUE.is("counted(0, 1)", x.counted(0, 1), 0);
        DUE.is("counted(1, 1)", x.counted(1, 1), 5);
        DUE.is("HISTORY too", x.figureIs(1, 10), 5);
        DUE.is("HISTORY of the other", x.figureIs(0, 10), 10);
    }

    private static void tried() {
        YearFigures x = Due.office(2, 2);
        x.staff(50);
        x.figure(0, 70);
        Due.law(x, "n2(1=1);d5(1=1);k3(1=1)");
        x.months(5);
        int seed = x.count(9);
        int first = x.tried(1, 0);
        int six = x.tried(6, 0);
        int[] then = {x.tried(6, 10), x.tried(6, 11)};
        DUE.is("nothing is changed: X", x.count(9), seed);
        DUE.is("nothing is changed: MONTH", x.count(1), 5);
        DUE.is("nothing is changed: HISTORY", x.figureIs(0, 15), 0);
        DUE.is("by the DRAWS that will come", x.months(1), first);
        DUE.is("all six", first + x.months(5), six);
        DUE.is("COUNT of 0 then", x.figureIs(0, 1), then[0]);
        DUE.is("COUNT of 1 then", x.figureIs(1, 1), then[1]);
        int days = x.tried(1, 2);
        int made = x.tried(1, 3);
        DUE.is("3 DAYS for each", days, 3 * made);
        DUE.is("nothing is changed: DAYS", x.count(5), 50);
        DUE.is("nothing is changed: PUBLISHED", x.published(0, 0), -2);
        DUE.is("nothing is changed: CAME OUT", x.count(4), 0);
    }

    private static void published() {
        YearFigures x = Due.office(1, 1);
        Due.law(x, "n1+y(m=0)");
        x.figure(0, 0);
        DUE.is("none", x.published(0, 0), -2);
        x.months(36);
        DUE.is("last", x.published(0, 0), 3);
        DUE.is("2 back", x.published(0, 2), 1);
        DUE.is("3 back: not so many", x.published(0, 3), -2);
        x.figure(3, 0);
        DUE.is("not told then", x.published(3, 0), -2);
        x.months(12);
        DUE.is("told then", x.published(3, 0), 4);
        DUE.is("not told before", x.published(3, 1), -2);
        x.months(60);
        DUE.is("YEAR", x.count(0), 9);
        DUE.is("7 back", x.published(0, 7), 2);
        DUE.is("8 back", x.published(0, 8), -1);
        DUE.is("-1 back", x.published(0, -1), -1);
        DUE.is("not told", x.published(1, 0), -1);
        DUE.is("no such figure", x.published(6, 0), -1);
    }

    private static void inARow() {
        YearFigures x = Due.office(1, 1);
        x.figure(0, 5);
        Due.law(x, "n5(m=0)");
        DUE.is("none", x.inARow(0), 0);
        x.months(36);
        DUE.is("three", x.inARow(0), 3);
        x.months(60);
        DUE.is("eight", x.inARow(0), 8);
        x.months(60);
        DUE.is("eight at most", x.inARow(0), 8);
        DUE.is("CAME OUT", x.count(4), 13);
        Due.law(x, "n6(m=0)");
        x.months(12);
        DUE.is("none from the last one back", x.inARow(0), 0);
        x.figure(0, 6);
        DUE.is("by TARGET as it is now", x.inARow(0), 1);
        x.figure(1, 6);
        DUE.is("not told then", x.inARow(1), 0);
        DUE.is("not told", x.inARow(2), -1);
        DUE.is("no such figure", x.inARow(-1), -1);
    }

    private static void lastYear() {
        YearFigures x = Due.office(1, 1);
        Due.law(x, "n1(1=1)");
        for (int i = 0; i < 199; i++) {
            DUE.is("months(60)", x.months(60), 60);
        }
        DUE.is("YEAR", x.count(0), 995);
        DUE.is("as many as can, tried", x.tried(60, 0), 48);
        DUE.is("as many as can", x.months(60), 48);
        DUE.is("YEAR 999", x.count(0), 999);
        int seed = x.count(9);
        DUE.is("no MONTH goes by", x.months(1), 0);
        DUE.is("tried", x.tried(60, 0), 0);
        DUE.is("MONTH", x.count(1), 0);
        DUE.is("X", x.count(9), seed);
        DUE.is("the last one", x.published(0, 0), 100);
    }

    private static void keptAndUndone() {
        YearFigures x = Due.office(2, 1);
        DUE.is("none was KEPT", x.undo(), false);
        x.staff(10);
        Due.law(x, "n1(1=1);d5(1=1);k1(1=1)");
        x.figure(0, 40);
        x.months(14);
        Due.report(x, "a0+5");
        int[] before = {x.count(9), x.figureIs(0, 1), x.figureIs(0, 10), x.published(0, 0), x.count(4), x.counted(0, 0)};
        DUE.is("keep", x.keep(), 1);
        x.staff(77);
        x.months(25);
        x.figure(1, 3);
        x.county(3, 5);
        for (int i = 0; i < 2; i++) {
            DUE.is("undo", x.undo(), true);
            int[] behind = {x.count(9), x.figureIs(0, 1), x.figureIs(0, 10), x.published(0, 0), x.count(4), x.counted(0, 0)};
            for (int j = 0; j < before.length; j++) {
                DUE.is("undone " + j, behind[j], before[j]);
            }
            DUE.is("YEAR", x.count(0), 1);
            DUE.is("MONTH", x.count(1), 2);
            DUE.is("DAYS that are left", x.count(5), 10);
            DUE.is("STAFF is not undone", x.count(6), 77);
            DUE.is("figures are not undone", x.count(3), 3);
            DUE.is("counties are not undone", x.count(2), 11);
            DUE.is("PUBLISHED", x.published(0, 1), -2);
            x.months(30);
        }
        DUE.is("keep again", x.keep(), 3);
        x.undo();
        DUE.is("as KEPT last", x.count(0), 3);
    }
}
