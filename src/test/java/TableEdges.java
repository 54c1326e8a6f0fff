/** Edges of promise 17: tables that are rounded by hand so that all sums are. */
final class TableEdges {
    private TableEdges() {
    }

    /** Counties and figures from 0 on, with their counts county by county. */
    private static YearFigures table(int counties, int figures, int... counts) {
        YearFigures x = Due.office(counties, figures);
        for (int i = 0; i < counts.length; i++) {
            Due.report(x, "" + (char) ('a' + i / figures) + i % figures + "+" + counts[i]);
        }
        return x;
    }

    private static void rounded(Due due, int[] size, int base, int[] counts, int off, int up) {
        YearFigures x = table(size[0], size[1], counts);
        int counties = (1 << size[0]) - 1;
        int figures = (1 << size[1]) - 1;
        due.is("off by " + base, x.table(counties, figures, base, 0), off);
        due.is("up by " + base, x.table(counties, figures, base, 1), up);
    }

    @Edge(promise = 17, says = "A TABLE: 1 to 4 told counties, 1 to 3 told figures")
    static void from1To4CountiesAnd1To3Figures(Due due) {
        YearFigures x = Due.office(6, 6);
        for (int counties = 0; counties < 64; counties++) {
            int many = Integer.bitCount(counties);
            due.is("counties " + counties, x.table(counties, 32, 10, 0), many >= 1 && many <= 4 ? 0 : -1);
        }
        for (int figures = 0; figures < 64; figures++) {
            int many = Integer.bitCount(figures);
            due.is("figures " + figures, x.table(32, figures, 10, 0), many >= 1 && many <= 3 ? 0 : -1);
        }
        due.is("the most", x.table(60, 56, 10, 1), 0);
    }

    @Edge(promise = 17, says = "NONE: no such ones.")
    static void bitsOfThoseThatAreNotTold(Due due) {
        YearFigures x = new YearFigures();
        x.county(1, 0);
        x.county(5, 0);
        x.figure(0, 0);
        x.figure(4, 0);
        due.is("told ones", x.table(34, 17, 10, 0), 0);
        int[] counties = {1, 3, 35, 64, 64 + 2, 128 + 34, 1 << 30, Integer.MIN_VALUE, Integer.MIN_VALUE + 2, -1, -2, Integer.MAX_VALUE};
        for (int bits : counties) {
            due.is("counties " + bits, x.table(bits, 1, 10, 0), -1);
        }
        int[] figures = {2, 3, 19, 64, 64 + 1, 128 + 16, 1 << 30, Integer.MIN_VALUE, Integer.MIN_VALUE + 1, -1, Integer.MAX_VALUE};
        for (int bits : figures) {
            due.is("figures " + bits, x.table(2, bits, 10, 0), -1);
        }
    }

    @Edge(promise = 17, says = "A TABLE of counties (bits), figures (bits), a BASE (2 to 50)")
    static void baseFrom2To50(Due due) {
        YearFigures x = table(1, 1, 99);
        due.is("off by 2", x.table(1, 1, 2, 0), 2);
        due.is("by 2 down", x.table(1, 1, 2, 1), 0);
        due.is("off by 50", x.table(1, 1, 50, 0), 2);
        due.is("by 50 up", x.table(1, 1, 50, 1), 1);
        for (int base : Due.outside(2, 50)) {
            due.is("base " + base, x.table(1, 1, base, 0), -1);
        }
    }

    @Edge(promise = 17, says = "each COUNT is rounded to a BASE (2 to 50), down or up")
    static void roundedDownOrUp(Due due) {
        // 25 is as far from 0 as from 50, 24 is nearer to 0, 26 to 50
        int[][] all = {{24, 48, 0}, {25, 50, 0}, {26, 48, 1}, {49, 2, 1}, {1, 2, 0}};
        for (int[] one : all) {
            rounded(due, new int[] {1, 1}, 50, new int[] {one[0]}, one[1], one[2]);
        }
        YearFigures most = Due.office(1, 1);
        Due.fill(most, 0, 0);
        due.is("9999 goes up to 10000", most.table(1, 1, 50, 1), 1);
        due.is("off", most.table(1, 1, 50, 0), 2);
    }

    @Edge(promise = 17, says = "(one that is a multiple stays)")
    static void multiplesStay(Due due) {
        rounded(due, new int[] {1, 1}, 10, new int[] {0}, 0, 0);
        rounded(due, new int[] {1, 1}, 10, new int[] {10}, 0, 0);
        rounded(due, new int[] {1, 1}, 10, new int[] {990}, 0, 0);
        rounded(due, new int[] {4, 3}, 50, new int[] {0, 50, 100, 150, 200, 250, 300, 350, 400, 450, 500, 550}, 0, 0);
        // a0 up and a1 down would be as good with fewer bits, if 0 could go up
        rounded(due, new int[] {2, 2}, 2, new int[] {0, 3, 1, 0}, 4, 2);
        rounded(due, new int[] {2, 2}, 2, new int[] {2, 1, 3, 4}, 4, 2);
    }

    @Edge(promise = 17, says = "so that each county's sum and each figure's sum, and the sum of all, is off by less than a BASE")
    static void offByLessThanABase(Due due) {
        // all down would be off by 4, too, but the sum of all by 2
        rounded(due, new int[] {2, 2}, 2, new int[] {1, 0, 2, 3}, 4, 1);
        rounded(due, new int[] {2, 2}, 2, new int[] {3, 4, 0, 3}, 4, 1);
        // one county: all down would be its sum off by 2, and so would be one figure's
        rounded(due, new int[] {1, 2}, 2, new int[] {1, 1}, 2, 1);
        rounded(due, new int[] {2, 1}, 2, new int[] {1, 1}, 2, 1);
        // one or two go up in each county and each figure, four or five in all
        rounded(due, new int[] {3, 3}, 10, new int[] {5, 5, 5, 5, 5, 5, 5, 5, 5}, 30, 78);
    }

    @Edge(promise = 17, says = "by which all together is off least (each sum of a county, of a figure, off, added up)")
    static void offLeastOfAll(Due due) {
        rounded(due, new int[] {1, 2}, 10, new int[] {4, 4}, 2 + 6 + 4, 1);
        rounded(due, new int[] {1, 2}, 10, new int[] {9, 9}, 2 + 1 + 1, 3);
        rounded(due, new int[] {2, 1}, 10, new int[] {13, 7}, 3 + 3, 2);
        rounded(due, new int[] {2, 2}, 10, new int[] {5, 5, 5, 5}, 0, 6);
    }

    @Edge(promise = 17, says = "of like ones the least bits (a bit: up; county by county, in it figure by figure).")
    static void bitsCountyByCounty(Due due) {
        for (int cell = 0; cell < 12; cell++) {
            int[] counts = new int[12];
            counts[cell] = 9;
            rounded(due, new int[] {4, 3}, 10, counts, 2, 1 << cell);
        }
        rounded(due, new int[] {4, 3}, 50, new int[] {49, 49, 49, 49, 49, 49, 49, 49, 49, 49, 49, 49}, 24, 4095);
        rounded(due, new int[] {4, 1}, 10, new int[] {9, 0, 0, 9}, 4, 9);
        // of counties and figures that do not stand side by side
        YearFigures x = Due.office(6, 6);
        Due.report(x, "f5+9");
        due.is("the last of b f and 0 5", x.table(34, 33, 10, 1), 8);
        due.is("the first of f and 5", x.table(32, 32, 10, 1), 1);
        due.is("of f and 4 5", x.table(32, 48, 10, 1), 2);
        due.is("of e f and 5", x.table(48, 32, 10, 1), 2);
        // like ones
        rounded(due, new int[] {1, 3}, 10, new int[] {5, 0, 5}, 10, 1);
        rounded(due, new int[] {1, 1}, 10, new int[] {5}, 10, 0);
    }

    @Edge(promise = 17, says = "what 0 how much it is off, 1 which go up (bits)")
    static void tableOfNoSuchWhat(Due due) {
        YearFigures x = table(2, 2, 1, 2, 3, 4);
        for (int what : Due.outside(0, 1)) {
            due.is("table(3, 3, 10, " + what + ")", x.table(3, 3, 10, what), -1);
        }
        due.is("a county and a figure that are not told", x.table(4, 4, 10, 0), -1);
    }

    @Edge(promise = 17, says = "-2: it can't be")
    static void aTableCanAlwaysBe(Due due) {
        // whatever the counts, one can be found: no counts are known for which it can't be
        for (int i = 0; i < 60; i++) {
            int[] counts = new int[12];
            for (int j = 0; j < 12; j++) {
                counts[j] = (i * 37 + j * j * 11 + i * j * 5) % 23;
            }
            due.is("it can be", table(4, 3, counts).table(15, 7, 7 + i % 5, 0) >= 0, true);
        }
    }
}
