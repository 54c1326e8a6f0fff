/** Promises 20, 22 to 25 and 28 to 30: records, definitions, windows, the middle, two halves, rising, spaced. */
public final class RecordsTest {
    private static final Due DUE = new Due("RecordsTest");

    public static void main(String[] args) {
        records();
        fallsUnder();
        joined();
        windows();
        middles();
        halves();
        rising();
        spaced();
        DUE.end();
    }

    private static void records() {
        YearFigures x = new YearFigures();
        int[][] wrong = {{-1, 0, 0, 0, 0}, {20, 0, 0, 0, 0}, {0, -1, 0, 0, 0}, {0, 6, 0, 0, 0}, {0, 0, -1, 0, 0},
            {0, 0, 100, 0, 0}, {0, 0, 0, -1, 0}, {0, 0, 0, 24, 0}, {0, 0, 0, 0, -1}, {0, 0, 0, 0, 10}};
        for (int[] w : wrong) {
            DUE.is("record", x.record(w[0], w[1], w[2], w[3], w[4]), false);
        }
        DUE.is("none told", x.count(10), 0);
        DUE.is("the last, of a county that is not told", x.record(19, 5, 99, 23, 9), true);
        DUE.is("the first", x.record(0, 0, 0, 0, 0), true);
        DUE.is("told", x.count(10), 1 << 19 | 1);
        DUE.is("in place", x.record(0, 1, 50, 2, 3), true);
        DUE.is("told still", x.count(10), 1 << 19 | 1);
        DUE.is("as it is now", x.middle(3, 0), 50);
        DUE.is("not as it was", x.middle(0, 1), 0);
        DUE.is("a refused one", x.record(0, 1, 50, 2, 10), false);
        DUE.is("changes nothing", x.middle(3, 1), 1);
    }

    private static void fallsUnder() {
        YearFigures x = new YearFigures();
        for (int r = 0; r < 20; r++) {
            if (r != 7) {
                x.record(r, r % 6, 5 * r, r, r % 10);
            }
        }
        DUE.is("how many", Due.definition(x, 2, "(g>49&g<80|r=0|r=7)"), 7);
        DUE.is("which", x.fallsUnder(2), 63 << 10 | 1);
        DUE.is("not told", x.fallsUnder(1), -1);
        DUE.is("fallsUnder(-1)", x.fallsUnder(-1), -1);
        DUE.is("fallsUnder(6)", x.fallsUnder(6), -1);
        x.record(7, 0, 60, 0, 0);
        DUE.is("by records as they are now", x.fallsUnder(2), 63 << 10 | 1 | 1 << 7);
        DUE.is("c and q", Due.definition(x, 5, "(c=5&q=1)"), 1);
        DUE.is("r 11", x.fallsUnder(5), 1 << 11);
        DUE.is("divided by 0: does not hold", Due.definition(x, 5, "(10/r=10|r=0)"), 1);
        DUE.is("only r 1", x.fallsUnder(5), 2);
    }

    private static void joined() {
        YearFigures x = new YearFigures();
        for (int r = 0; r < 10; r++) {
            x.record(r, 0, r, 0, 0);
        }
        Due.definition(x, 1, "(g<3)");
        Due.definition(x, 2, "(g>1&g<5)");
        Due.definition(x, 3, "(g>5&g<9)");
        Due.definition(x, 5, "(g<3|g=9)");
        // 3, 3 (one of both), 3, 4
        DUE.is("none", x.joined(0, 0), 0);
        DUE.is("none, bits", x.joined(0, 1), 0);
        DUE.is("three by one", x.joined(3, 0), 1);
        DUE.is("the least bits", x.joined(3, 1), 2);
        DUE.is("four by one, not by more", x.joined(4, 1), 32);
        DUE.is("five by 1 and 2", x.joined(5, 1), 6);
        DUE.is("six", x.joined(6, 1), 10);
        DUE.is("seven", x.joined(7, 1), 40);
        DUE.is("eight by three", x.joined(8, 0), 3);
        DUE.is("eight by 1, 2, 3", x.joined(8, 1), 14);
        DUE.is("nine", x.joined(9, 1), 44);
        DUE.is("ten: not by any", x.joined(10, 0), -2);
        DUE.is("ten: not by any, bits", x.joined(10, 1), -2);
        DUE.is("twenty", x.joined(20, 0), -2);
        DUE.is("joined(21, 0)", x.joined(21, 0), -1);
        DUE.is("joined(-1, 0)", x.joined(-1, 0), -1);
        DUE.is("joined(3, 2)", x.joined(3, 2), -1);
        DUE.is("joined(3, -1)", x.joined(3, -1), -1);
        Due.definition(x, 0, "(g>99)");
        DUE.is("none, still by none", x.joined(0, 0), 0);
        Due.definition(x, 4, "(g<8)");
        DUE.is("eight by one, though three have less bits", x.joined(8, 1), 16);
        DUE.is("how many", x.joined(8, 0), 1);
        Due.definition(x, 0, "(g=9)");
        DUE.is("one by 0", x.joined(1, 1), 1);
        DUE.is("nine by two, one of which is 0", x.joined(9, 1), 1 + 16);
    }

    private static void windows() {
        YearFigures x = new YearFigures();
        int[] ages = {10, 12, 12, 30, 33, 99, 0};
        for (int r = 0; r < ages.length; r++) {
            x.record(r, 0, ages[r], 0, 4);
        }
        x.record(19, 0, 11, 0, 5);
        int[][] due = {{1, 0, 0}, {2, 12, 12}, {3, 10, 12}, {4, 0, 12}, {5, 10, 33}, {6, 0, 33}, {7, 0, 99}};
        for (int[] d : due) {
            DUE.is("window(4, " + d[0] + ", 0)", x.window(4, d[0], 0), d[1]);
            DUE.is("window(4, " + d[0] + ", 1)", x.window(4, d[0], 1), d[2]);
        }
        DUE.is("eight", x.window(4, 8, 0), -2);
        DUE.is("another KIND", x.window(5, 1, 1), 11);
        DUE.is("of no such KIND", x.window(6, 1, 1), -2);
        x.record(5, 0, 12, 0, 4);
        DUE.is("just so many: two would be three", x.window(4, 2, 0), 30);
        DUE.is("to", x.window(4, 2, 1), 33);
        DUE.is("window(-1, 1, 0)", x.window(-1, 1, 0), -1);
        DUE.is("window(10, 1, 0)", x.window(10, 1, 0), -1);
        DUE.is("window(4, 0, 0)", x.window(4, 0, 0), -1);
        DUE.is("window(4, 21, 0)", x.window(4, 21, 0), -1);
        DUE.is("window(4, 20, 0)", x.window(4, 20, 0), -2);
        DUE.is("window(4, 1, 2)", x.window(4, 1, 2), -1);
        DUE.is("window(4, 1, -1)", x.window(4, 1, -1), -1);
    }

    private static void middles() {
        YearFigures x = new YearFigures();
        DUE.is("none", x.middle(0, 0), -2);
        DUE.is("how many: none", x.middle(0, 1), 0);
        int[] ages = {50, 0, 99, 7, 7};
        int[] middle = {50, 0, 50, 7, 7};
        for (int r = 0; r < ages.length; r++) {
            x.record(r, 0, ages[r], 0, 9);
            DUE.is("the middle of " + (r + 1), x.middle(9, 0), middle[r]);
            DUE.is("how many", x.middle(9, 1), r + 1);
        }
        x.record(7, 0, 1, 0, 8);
        DUE.is("of its KIND only", x.middle(9, 1), 5);
        DUE.is("age 0", x.middle(8, 0), 1);
        DUE.is("middle(-1, 0)", x.middle(-1, 0), -1);
        DUE.is("middle(10, 0)", x.middle(10, 0), -1);
        DUE.is("middle(9, 2)", x.middle(9, 2), -1);
        DUE.is("middle(9, -1)", x.middle(9, -1), -1);
    }

    private static void halves() {
        YearFigures x = new YearFigures();
        DUE.is("none", x.halves(0), 0);
        x.record(0, 1, 30, 5, 2);
        x.record(1, 1, 30, 6, 2);
        DUE.is("a two", x.halves(0), 1);
        DUE.is("one can go", x.halves(1), 1);
        x.record(1, 2, 30, 6, 2);
        DUE.is("another county", x.halves(0), 0);
        x.record(1, 1, 31, 6, 2);
        DUE.is("another AGE", x.halves(0), 0);
        x.record(1, 1, 30, 6, 3);
        DUE.is("another KIND", x.halves(0), 0);
        x.record(1, 1, 30, 7, 2);
        DUE.is("two HOURS apart", x.halves(0), 0);
        x.record(1, 1, 30, 5, 2);
        DUE.is("the same HOUR", x.halves(0), 0);
        x.record(0, 1, 30, 23, 2);
        x.record(1, 1, 30, 0, 2);
        DUE.is("23 and 0", x.halves(0), 1);
        DUE.is("halves(2)", x.halves(2), -1);
        DUE.is("halves(-1)", x.halves(-1), -1);
        // a path of hours 5 4 7 6 told so that the first partner that comes is the wrong one
        YearFigures y = new YearFigures();
        int[] hours = {6, 5, 4, 7};
        for (int r = 0; r < hours.length; r++) {
            y.record(r, 0, 1, hours[r], 1);
        }
        DUE.is("a path of four", y.halves(0), 3);
        DUE.is("two twos in it", y.halves(1), 2);
        YearFigures z = new YearFigures();
        for (int r = 0; r < 20; r++) {
            z.record(r, 0, 1, r < 13 ? 10 : 11, 1);
        }
        DUE.is("13 by 7", z.halves(0), 91);
        DUE.is("7 twos", z.halves(1), 7);
        for (int r = 0; r < 20; r++) {
            z.record(r, 0, 1, (r * 7 + 15) % 20, 1);
        }
        DUE.is("a chain of 20", z.halves(0), 19);
        DUE.is("10 twos", z.halves(1), 10);
    }

    private static void risen(int cost, int[] row, int... due) {
        YearFigures x = Due.office(1, 1);
        for (int m = 0; m < row.length; m++) {
            Due.law(x, "n" + row[m] + "(1=1)");
            x.months(1);
        }
        DUE.is("rising(0, 100)", x.rising(0, 100), cost);
        for (int m = 0; m < 12; m++) {
            DUE.is("rising(0, " + m + ")", x.rising(0, m), due[m]);
        }
    }

    private static void rising() {
        risen(0, new int[0], 0, 0, 0, 0, 0, 0, 0, 0, 0, 0, 0, 0);
        // eleven months that went by and one that is 0
        risen(11, new int[] {1, 2, 3, 4, 5, 6, 7, 8, 9, 10, 11}, 1, 2, 3, 4, 5, 6, 7, 8, 9, 10, 10, 10);
        risen(30, new int[] {5, 5, 5, 5, 5, 5}, 0, 0, 0, 0, 0, 0, 0, 0, 0, 0, 0, 0);
        risen(5 + 5, new int[] {5, 5, 5, 5, 5, 0, 5, 5, 5, 5, 5}, 5, 5, 5, 5, 5, 5, 5, 5, 5, 5, 5, 5);
        // 2 + 0 + 3 + 0, then 0 + 4 + 3 + 1 + 0 + 2 + 0 + 5
        risen(20, new int[] {3, 1, 4, 1, 5, 9, 2, 6, 5, 3, 5}, 1, 1, 1, 1, 5, 5, 5, 5, 5, 5, 5, 5);
        // 7 and 3 are both right for the first two: the least row
        risen(4 + 9, new int[] {7, 3, 9, 9, 9, 9, 9, 9, 9, 9, 9}, 3, 3, 9, 9, 9, 9, 9, 9, 9, 9, 9, 9);
        YearFigures x = Due.office(1, 1);
        DUE.is("rising(1, 0)", x.rising(1, 0), -1);
        DUE.is("rising(-1, 0)", x.rising(-1, 0), -1);
        DUE.is("rising(0, 12)", x.rising(0, 12), -1);
        DUE.is("rising(0, -1)", x.rising(0, -1), -1);
        DUE.is("rising(0, 99)", x.rising(0, 99), -1);
        DUE.is("rising(0, 101)", x.rising(0, 101), -1);
    }

    private static void spaced() {
        YearFigures x = new YearFigures();
        DUE.is("one birth", x.spaced(1, 60, 20), 60);
        DUE.is("two on two DAYS", x.spaced(2, 2, 1), 1);
        DUE.is("two on one DAY", x.spaced(2, 1, 1), 0);
        DUE.is("two on five DAYS, 2 apart", x.spaced(2, 5, 2), 6);
        DUE.is("three on 41 DAYS, 20 apart", x.spaced(3, 41, 20), 1);
        DUE.is("three on 40 DAYS, 20 apart", x.spaced(3, 40, 20), 0);
        DUE.is("12 of 60", x.spaced(12, 60, 1), 1399358844975L);
        DUE.is("12 of 60, 20 apart", x.spaced(12, 60, 20), 0);
        DUE.is("no birth", x.spaced(0, 5, 1), -1);
        DUE.is("13 births", x.spaced(13, 60, 1), -1);
        DUE.is("no DAY", x.spaced(1, 0, 1), -1);
        DUE.is("61 DAYS", x.spaced(1, 61, 1), -1);
        DUE.is("gap 0", x.spaced(1, 5, 0), -1);
        DUE.is("gap 21", x.spaced(1, 5, 21), -1);
    }
}
