/** Edges of promises 20, 24, 25 and 28: records, windows, the middle, two halves. */
final class RecordEdges {
    private RecordEdges() {
    }

    private static YearFigures ages(int kind, int... ages) {
        YearFigures x = new YearFigures();
        for (int r = 0; r < ages.length; r++) {
            x.record(r, 0, ages[r], 0, kind);
        }
        return x;
    }

    private static YearFigures hours(int... hours) {
        YearFigures x = new YearFigures();
        for (int r = 0; r < hours.length; r++) {
            x.record(r, 3, 50, hours[r], 4);
        }
        return x;
    }

    // ---- 20

    @Edge(promise = 20, says = "RECORDS 0 to 19: told or not, a county (0 to 5), an AGE (0 to 99), an HOUR (0 to 23), a KIND (0 to 9).")
    static void recordsWithinTheirBounds(Due due) {
        YearFigures x = new YearFigures();
        int[] most = {19, 5, 99, 23, 9};
        for (int place = 0; place < 5; place++) {
            for (int wrong : Due.outside(0, most[place])) {
                int[] a = {0, 0, 0, 0, 0};
                a[place] = wrong;
                due.is("record with " + wrong + " at " + place, x.record(a[0], a[1], a[2], a[3], a[4]), false);
            }
        }
        due.is("none is told", x.count(10), 0);
        due.is("the least", x.record(0, 0, 0, 0, 0), true);
        due.is("told", x.count(10), 1);
        due.is("the most", x.record(19, 5, 99, 23, 9), true);
        due.is("both told", x.count(10), 1 << 19 | 1);
        due.is("its AGE", x.middle(9, 0), 99);
        due.is("all of it", Due.definition(x, 0, "(r=19&c=5&g=99&h=23&q=9)"), 1);
    }

    @Edge(promise = 20, says = "false: no such ones.")
    static void recordOfNoSuchOnes(Due due) {
        YearFigures x = new YearFigures();
        x.record(3, 1, 2, 3, 4);
        Due.definition(x, 0, "(r=3&c=1&g=2&h=3&q=4)");
        int[][] wrong = {{3, 6, 9, 9, 9}, {3, 0, 100, 9, 9}, {3, 0, 9, 24, 9}, {3, 0, 9, 9, 10}, {20, 0, 9, 9, 9}, {4, 0, 9, 9, 10}};
        for (int[] a : wrong) {
            due.is("record", x.record(a[0], a[1], a[2], a[3], a[4]), false);
            due.is("told", x.count(10), 8);
            due.is("as it was", x.fallsUnder(0), 8);
        }
    }

    @Edge(promise = 20, says = "A RECORD (in place of the one before): true")
    static void recordInPlaceOfTheOneBefore(Due due) {
        YearFigures x = new YearFigures();
        x.record(19, 5, 99, 23, 9);
        due.is("in its place", x.record(19, 1, 2, 3, 4), true);
        due.is("told once", x.count(10), 1 << 19);
        due.is("none of the KIND before", x.middle(9, 1), 0);
        due.is("all of it is new", Due.definition(x, 0, "(c=1&g=2&h=3&q=4)"), 1);
        due.is("one that is refused", x.record(19, 1, 2, 3, 10), false);
        due.is("changes nothing", x.fallsUnder(0), 1 << 19);
    }

    @Edge(promise = 20, says = "a county (0 to 5)")
    static void recordOfACountyThatIsNotTold(Due due) {
        due.is("no county is told", new YearFigures().record(0, 5, 0, 0, 0), true);
    }

    // ---- 24

    private static void window(Due due, YearFigures x, int many, int from, int to) {
        due.is("from of " + many, x.window(7, many, 0), from);
        due.is("to of " + many, x.window(7, many, 1), to);
    }

    @Edge(promise = 24, says = "A WINDOW: the narrowest stretch of AGES (from, to) in which just so many told RECORDS of a KIND are (1 to 20)")
    static void justSoMany(Due due) {
        YearFigures x = ages(7, 0, 99);
        window(due, x, 1, 0, 0);
        window(due, x, 2, 0, 99);
        window(due, x, 3, -2, -2);
        YearFigures same = ages(7, 40, 40, 40, 40, 40, 40, 40, 40, 40, 40, 40, 40, 40, 40, 40, 40, 40, 40, 40, 40);
        window(due, same, 20, 40, 40);
        window(due, same, 19, -2, -2);
        window(due, same, 1, -2, -2);
        YearFigures row = new YearFigures();
        for (int r = 0; r < 20; r++) {
            row.record(r, 0, 99 - 5 * r, 0, 7);
        }
        window(due, row, 20, 4, 99);
        window(due, row, 19, 4, 94);
        window(due, row, 1, 4, 4);
        YearFigures three = ages(7, 10, 10, 10, 11, 50, 52);
        window(due, three, 2, 50, 52);
        window(due, three, 4, 10, 11);
        window(due, three, 3, 10, 10);
        window(due, three, 5, 10, 50);
    }

    @Edge(promise = 24, says = "of like ones the lowest.")
    static void theLowestOfLikeWindows(Due due) {
        YearFigures x = ages(7, 80, 82, 30, 32, 99, 0, 55, 57);
        window(due, x, 2, 30, 32);
        window(due, x, 1, 0, 0);
        YearFigures narrow = ages(7, 10, 13, 30, 32, 60, 62);
        window(due, narrow, 2, 30, 32);
    }

    @Edge(promise = 24, says = "A WINDOW for so many (1 to 20) RECORDS of a KIND (0 to 9), what 0 from, 1 to")
    static void windowOfTheFirstAndTheLastKind(Due due) {
        YearFigures x = ages(9, 5, 7);
        x.record(2, 0, 6, 0, 0);
        due.is("KIND 9, from", x.window(9, 2, 0), 5);
        due.is("KIND 9, to", x.window(9, 2, 1), 7);
        due.is("KIND 0, from", x.window(0, 1, 0), 6);
        due.is("KIND 0, to", x.window(0, 1, 1), 6);
    }

    @Edge(promise = 24, says = "-2: none")
    static void noWindow(Due due) {
        YearFigures x = ages(9, 5);
        for (int what = 0; what <= 1; what++) {
            due.is("of no RECORDS", x.window(8, 1, what), -2);
            due.is("2 of one", x.window(9, 2, what), -2);
            due.is("20 of one", x.window(9, 20, what), -2);
            due.is("of nothing at all", new YearFigures().window(0, 1, what), -2);
        }
    }

    @Edge(promise = 24, says = "NONE: no such ones.")
    static void windowOfNoSuchOnes(Due due) {
        YearFigures x = ages(9, 5);
        for (int kind : Due.outside(0, 9)) {
            due.is("window(" + kind + ", 1, 0)", x.window(kind, 1, 0), -1);
        }
        for (int many : Due.outside(1, 20)) {
            due.is("window(9, " + many + ", 0)", x.window(9, many, 0), -1);
        }
        for (int what : Due.outside(0, 1)) {
            due.is("window(9, 1, " + what + ")", x.window(9, 1, what), -1);
            due.is("window(8, 1, " + what + ")", x.window(8, 1, what), -1);
        }
    }

    // ---- 25

    @Edge(promise = 25, says = "THE MIDDLE: of the told RECORDS of a KIND, by AGE, the AGE of the middle one (of two the lower); how many there are.")
    static void theMiddleOne(Due due) {
        due.is("of one", ages(0, 99).middle(0, 0), 99);
        due.is("of one, 0", ages(0, 0).middle(0, 0), 0);
        due.is("of two the lower", ages(0, 99, 0).middle(0, 0), 0);
        due.is("of three", ages(0, 99, 0, 1).middle(0, 0), 1);
        due.is("of four the lower", ages(0, 99, 0, 1, 2).middle(0, 0), 1);
        due.is("of five", ages(0, 99, 0, 1, 2, 2).middle(0, 0), 2);
        due.is("of like ones", ages(0, 7, 7, 7, 7).middle(0, 0), 7);
        YearFigures x = new YearFigures();
        for (int r = 0; r < 20; r++) {
            x.record(r, 0, 90 - r, 0, 9);
            due.is("of " + (r + 1), x.middle(9, 0), 90 - r + r / 2);
            due.is("how many", x.middle(9, 1), r + 1);
        }
    }

    @Edge(promise = 25, says = "THE MIDDLE of a KIND (0 to 9), what 0 the AGE (-2: there are none), 1 how many")
    static void middleOfNone(Due due) {
        YearFigures x = ages(9, 5);
        due.is("none of KIND 0", x.middle(0, 0), -2);
        due.is("how many of KIND 0", x.middle(0, 1), 0);
        due.is("KIND 9", x.middle(9, 0), 5);
        due.is("how many of KIND 9", x.middle(9, 1), 1);
        x.record(0, 0, 5, 0, 0);
        due.is("KIND 0 then", x.middle(0, 0), 5);
        due.is("none of KIND 9 then", x.middle(9, 0), -2);
    }

    @Edge(promise = 25, says = "NONE: no such ones.")
    static void middleOfNoSuchOnes(Due due) {
        YearFigures x = ages(9, 5);
        for (int kind : Due.outside(0, 9)) {
            due.is("middle(" + kind + ", 0)", x.middle(kind, 0), -1);
            due.is("middle(" + kind + ", 1)", x.middle(kind, 1), -1);
        }
        for (int what : Due.outside(0, 1)) {
            due.is("middle(9, " + what + ")", x.middle(9, what), -1);
            due.is("middle(0, " + what + ")", x.middle(0, what), -1);
        }
    }

    // ---- 28

    private static void twos(Due due, String what, YearFigures x, int twos, int away) {
        due.is(what + ": twos", x.halves(0), twos);
        due.is(what + ": away", x.halves(1), away);
    }

    @Edge(promise = 28, says = "TWO HALVES: twos of told RECORDS of one county and KIND, whose HOURS are one apart (23 and 0, too) and AGES the same")
    static void hoursOneApart(Due due) {
        twos(due, "none", new YearFigures(), 0, 0);
        twos(due, "one", hours(5), 0, 0);
        twos(due, "one HOUR apart", hours(5, 6), 1, 1);
        twos(due, "the other way", hours(6, 5), 1, 1);
        twos(due, "the same HOUR", hours(5, 5), 0, 0);
        twos(due, "two HOURS apart", hours(5, 7), 0, 0);
        twos(due, "23 and 0", hours(23, 0), 1, 1);
        twos(due, "0 and 23", hours(0, 23), 1, 1);
        twos(due, "22 and 0", hours(22, 0), 0, 0);
        twos(due, "23 and 1", hours(23, 1), 0, 0);
        twos(due, "22 and 23", hours(22, 23), 1, 1);
        twos(due, "0 and 1", hours(0, 1), 1, 1);
        twos(due, "11 and 12", hours(11, 12), 1, 1);
        twos(due, "0 and 12", hours(0, 12), 0, 0);
        int[][] other = {{4, 50, 4}, {3, 51, 4}, {3, 49, 4}, {3, 50, 5}};
        for (int[] one : other) {
            YearFigures x = hours(5, 5);
            x.record(1, one[0], one[1], 6, one[2]);
            twos(due, "another county, AGE or KIND", x, 0, 0);
        }
        YearFigures untold = new YearFigures();
        untold.record(0, 0, 0, 1, 0);
        untold.record(19, 0, 0, 23, 0);
        twos(due, "RECORDS that are not told", untold, 0, 0);
    }

    @Edge(promise = 28, says = "the most RECORDS that can be taken away so that each of these twos is one RECORD (each RECORD in one two at most).")
    static void eachRecordInOneTwoAtMost(Due due) {
        twos(due, "three in a row", hours(5, 6, 7), 2, 1);
        twos(due, "four in a row", hours(5, 6, 7, 8), 3, 2);
        twos(due, "the middle first", hours(6, 7, 5, 8), 3, 2);
        twos(due, "the middle first, the other way", hours(7, 6, 8, 5), 3, 2);
        twos(due, "four around midnight", hours(23, 0, 22, 1), 3, 2);
        twos(due, "two and two", hours(5, 5, 6, 6), 4, 2);
        twos(due, "one and three", hours(5, 6, 6, 6), 3, 1);
        twos(due, "six in a row", hours(3, 2, 4, 1, 5, 0), 5, 3);
        int[] all = new int[20];
        for (int r = 0; r < 20; r++) {
            all[r] = 5 + r % 2;
        }
        twos(due, "ten and ten", hours(all), 100, 10);
        for (int r = 0; r < 20; r++) {
            all[r] = r == 19 ? 6 : 5;
        }
        twos(due, "nineteen and one", hours(all), 19, 1);
        for (int r = 0; r < 20; r++) {
            all[r] = r < 13 ? 10 : 11;
        }
        twos(due, "thirteen and seven", hours(all), 91, 7);
        for (int r = 0; r < 20; r++) {
            all[r] = (20 + r * 9 % 20) % 24;
        }
        twos(due, "twenty in a row over midnight", hours(all), 19, 10);
    }

    @Edge(promise = 28, says = "TWO HALVES, what 0 how many twos there are, 1 how many RECORDS can be taken away")
    static void theFirstAndTheLastRecordAreATwo(Due due) {
        YearFigures x = new YearFigures();
        x.record(19, 5, 99, 0, 9);
        twos(due, "the last alone", x, 0, 0);
        x.record(0, 5, 99, 23, 9);
        twos(due, "the first and the last", x, 1, 1);
        x.record(0, 5, 99, 22, 9);
        twos(due, "no more", x, 0, 0);
    }

    @Edge(promise = 28, says = "NONE: no such what.")
    static void halvesOfNoSuchWhat(Due due) {
        YearFigures x = hours(5, 6);
        for (int what : Due.outside(0, 1)) {
            due.is("halves(" + what + ")", x.halves(what), -1);
        }
    }
}
