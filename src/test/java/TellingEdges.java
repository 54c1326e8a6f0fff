/** Edges of promises 1 to 5, 11, 16, 31 and 35: what is told of counties, figures, the staff and the seed, and asked again. */
final class TellingEdges {
    private TellingEdges() {
    }

    @Edge(promise = 1, says = "No COUNTIES, FIGURES, LAW; THE SEED 1.")
    static void newObjectIsEmpty(Due due) {
        YearFigures x = new YearFigures();
        due.is("told counties", x.count(2), 0);
        due.is("told figures", x.count(3), 0);
        due.is("RULES", x.count(7), 0);
        due.is("X", x.count(9), 1);
        due.is("all PEOPLE", x.count(12), 0);
        for (int i = 0; i < 6; i++) {
            due.is("county " + i, x.count(30 + i), -1);
            due.is("figure " + i, x.figureIs(i, 0), -1);
        }
        due.is("the tape", x.count(8), 0);
        due.is("REGIONS", x.regions(100), 0);
    }

    @Edge(promise = 1, says = "An object is used for at most 512 calls after it has been made")
    static void the512thCallIsAnswered(Due due) {
        YearFigures x = new YearFigures();
        for (int i = 1; i <= 510; i++) {
            x.staff(i);
        }
        due.is("call 511", x.county(0, 511), true);
        due.is("call 512", x.count(30), 511);
    }

    @Edge(promise = 1, says = "All memory is the office's own.")
    static void objectsShareNothing(Due due) {
        YearFigures x = Scene.full();
        YearFigures y = new YearFigures();
        due.is("counties", y.count(2), 0);
        due.is("X", y.count(9), 1);
        due.is("the tape", y.count(8), 0);
        due.is("none was KEPT", y.undo(), false);
        y.county(0, 9999);
        y.feed(1, 2, 3, 4, 5);
        y.months(60);
        due.is("the first one's people", x.count(30), 60);
        due.is("its tape", x.count(8), 40);
        due.is("its YEAR", x.count(0), 1);
    }

    @Edge(promise = 1, says = "`NONE = -1`: There is none.")
    static void noneIsMinusOne(Due due) {
        due.is("NONE", YearFigures.NONE, -1);
        due.is("what is none", new YearFigures().count(-1), YearFigures.NONE);
    }

    @Edge(promise = 1, says = "two are NEXT to each other or not (not at first)")
    static void noTwoAreNextAtFirst(Due due) {
        YearFigures x = Due.office(6, 0);
        for (int c = 0; c < 6; c++) {
            due.is("NEXT to " + c, x.count(20 + c), 0);
        }
        due.is("REGIONS", x.regions(100), 6);
    }

    @Edge(promise = 1, says = "A COUNT for each county and figure (0 to 9999; 0 at first)")
    static void countsAreZeroAtFirst(Due due) {
        YearFigures x = Due.office(6, 6);
        for (int i = 0; i < 36; i++) {
            due.is("COUNT " + i, x.counted(i / 6, i % 6), 0);
        }
    }

    @Edge(promise = 1, says = "THE MONTH (0 to 11; 0 at first), THE YEAR (0 at first)")
    static void monthAndYearAreZeroAtFirst(Due due) {
        YearFigures x = new YearFigures();
        due.is("THE YEAR", x.count(0), 0);
        due.is("THE MONTH", x.count(1), 0);
    }

    @Edge(promise = 1, says = "STAFF (0 to 9999 DAYS in a YEAR; 0 at first)")
    static void noStaffAtFirst(Due due) {
        YearFigures x = Due.office(1, 1);
        due.is("DAYS left", x.count(5), 0);
        due.is("STAFF", x.count(6), 0);
        Due.law(x, "k1(1=1)");
        due.is("no one is made", x.tried(12, 3), 0);
    }

    @Edge(promise = 1, says = "CAME OUT (how many figures were published at their TARGET; 0 at first)")
    static void noneCameOutAtFirst(Due due) {
        due.is("CAME OUT", new YearFigures().count(4), 0);
    }

    @Edge(promise = 1, says = "(X is THE SEED at first, 1)")
    static void theFirstDrawIsFromOne(Due due) {
        YearFigures x = Due.office(1, 1);
        x.months(1);
        due.is("X", x.count(9), 25173 + 13849);
    }

    @Edge(promise = 1, says = "RECORDS 0 to 19: told or not")
    static void noRecordsAtFirst(Due due) {
        YearFigures x = new YearFigures();
        due.is("told RECORDS", x.count(10), 0);
        due.is("of KIND 0", x.middle(0, 1), 0);
        due.is("twos", x.halves(0), 0);
        due.is("that fall under what always holds", Due.definition(x, 0, "(1=1)"), 0);
    }

    @Edge(promise = 1, says = "DEFINITIONS 0 to 5: told or not")
    static void noDefinitionsAtFirst(Due due) {
        YearFigures x = new YearFigures();
        due.is("told DEFINITIONS", x.count(11), 0);
        for (int d = 0; d < 6; d++) {
            due.is("DEFINITION " + d, x.fallsUnder(d), -1);
        }
    }

    @Edge(promise = 2, says = "COUNTIES a to f (0 to 5)")
    static void countiesFromZeroToFive(Due due) {
        YearFigures x = new YearFigures();
        for (int c : Due.outside(0, 5)) {
            due.is("county(" + c + ", 5)", x.county(c, 5), false);
        }
        due.is("none told", x.count(2), 0);
        due.is("county(0, 5)", x.county(0, 5), true);
        due.is("a", x.count(2), 1);
        due.is("county(5, 5)", x.county(5, 5), true);
        due.is("a and f", x.count(2), 33);
    }

    @Edge(promise = 2, says = "PEOPLE (0 to 9999)")
    static void peopleFromZeroTo9999(Due due) {
        YearFigures x = new YearFigures();
        for (int people : Due.outside(0, 9999)) {
            due.is("county(0, " + people + ")", x.county(0, people), false);
        }
        due.is("not told", x.count(30), -1);
        due.is("county(0, 0)", x.county(0, 0), true);
        due.is("0 people", x.count(30), 0);
        due.is("county(0, 9999)", x.county(0, 9999), true);
        due.is("9999 people", x.count(30), 9999);
    }

    @Edge(promise = 2, says = "A county (in place of the one before; COUNTS, NEXT stay): true")
    static void countyInPlaceOfTheOneBefore(Due due) {
        YearFigures x = Due.office(3, 1);
        x.next(1, 2, true);
        Due.report(x, "b0+7");
        Due.law(x, "n1(c=1)");
        x.months(1);
        due.is("county(1, 0)", x.county(1, 0), true);
        due.is("its PEOPLE", x.count(31), 0);
        due.is("all PEOPLE", x.count(12), 20);
        due.is("its COUNT", x.counted(1, 0), 8);
        due.is("NEXT to it", x.count(21), 4);
        due.is("NEXT to the other", x.count(22), 2);
        due.is("HISTORY", x.figureIs(0, 10), 1);
        due.is("counties", x.count(2), 7);
    }

    @Edge(promise = 2, says = "false: no such ones.")
    static void countyOfNoSuchOnes(Due due) {
        YearFigures x = new YearFigures();
        x.county(3, 7);
        due.is("no such PEOPLE of one that is told", x.county(3, 10000), false);
        due.is("it has those before", x.count(33), 7);
        due.is("no such PEOPLE of one that is not told", x.county(2, -1), false);
        due.is("it is not told still", x.count(32), -1);
        due.is("neither such a county nor such PEOPLE", x.county(6, -1), false);
        due.is("counties", x.count(2), 8);
        due.is("all PEOPLE", x.count(12), 7);
    }

    @Edge(promise = 3, says = "Two told counties (not the same)")
    static void nextOfOtherThanTwoToldOnes(Due due) {
        YearFigures x = new YearFigures();
        due.is("none is told", x.next(0, 1, true), false);
        x.county(0, 1);
        due.is("the second is not told", x.next(0, 1, true), false);
        due.is("the first is not told", x.next(1, 0, true), false);
        due.is("the same", x.next(0, 0, true), false);
        due.is("the same, not", x.next(0, 0, false), false);
        for (int c : Due.outside(0, 5)) {
            due.is("next(0, " + c + ")", x.next(0, c, true), false);
            due.is("next(" + c + ", 0)", x.next(c, 0, true), false);
        }
        x.county(5, 1);
        due.is("none is NEXT yet", x.count(20) + x.count(25), 0);
        due.is("both told", x.next(0, 5, true), true);
    }

    @Edge(promise = 3, says = "false: no such ones.")
    static void nextOfNoSuchOnes(Due due) {
        YearFigures x = Due.office(3, 0);
        x.next(0, 1, true);
        due.is("not, of one that is not told", x.next(0, 3, false), false);
        due.is("not, of the same", x.next(1, 1, false), false);
        due.is("of none that is told", x.next(4, 5, true), false);
        due.is("NEXT to a", x.count(20), 2);
        due.is("NEXT to b", x.count(21), 1);
        x.county(3, 0);
        x.county(4, 0);
        x.county(5, 0);
        due.is("none of them is NEXT to one, when they are told", x.count(23) + x.count(24) + x.count(25), 0);
    }

    @Edge(promise = 3, says = "are NEXT to each other or not: true")
    static void nextBothWaysAndNot(Due due) {
        YearFigures x = Due.office(6, 0);
        due.is("next(5, 0)", x.next(5, 0, true), true);
        due.is("again", x.next(5, 0, true), true);
        due.is("the other way", x.next(0, 5, true), true);
        due.is("NEXT to f", x.count(25), 1);
        due.is("NEXT to a", x.count(20), 32);
        due.is("not", x.next(0, 5, false), true);
        due.is("NEXT to f then", x.count(25), 0);
        due.is("NEXT to a then", x.count(20), 0);
        due.is("not, of those that are not", x.next(0, 5, false), true);
        due.is("still not", x.count(25), 0);
        for (int i = 0; i < 30; i++) {
            x.next(i / 5, (i / 5 + 1 + i % 5) % 6, true);
        }
        for (int c = 0; c < 6; c++) {
            due.is("all but itself are NEXT to " + c, x.count(20 + c), 63 - (1 << c));
        }
    }

    @Edge(promise = 4, says = "FIGURES 0 to 5: told or not")
    static void figuresFromZeroToFive(Due due) {
        YearFigures x = new YearFigures();
        for (int f : Due.outside(0, 5)) {
            due.is("figure(" + f + ", 5)", x.figure(f, 5), false);
        }
        due.is("none told", x.count(3), 0);
        due.is("figure(0, 5)", x.figure(0, 5), true);
        due.is("0", x.count(3), 1);
        due.is("figure(5, 5)", x.figure(5, 5), true);
        due.is("0 and 5", x.count(3), 33);
    }

    @Edge(promise = 4, says = "a TARGET (0 to 9999)")
    static void targetFromZeroTo9999(Due due) {
        YearFigures x = new YearFigures();
        for (int target : Due.outside(0, 9999)) {
            due.is("figure(0, " + target + ")", x.figure(0, target), false);
        }
        due.is("not told", x.figureIs(0, 0), -1);
        due.is("figure(0, 0)", x.figure(0, 0), true);
        due.is("TARGET 0", x.figureIs(0, 0), 0);
        due.is("figure(0, 9999)", x.figure(0, 9999), true);
        due.is("TARGET 9999", x.figureIs(0, 0), 9999);
    }

    @Edge(promise = 4, says = "A figure (in place of the one before; COUNTS stay): true")
    static void figureInPlaceOfTheOneBefore(Due due) {
        YearFigures x = Due.office(2, 1);
        Due.law(x, "n1(c=1)");
        x.months(13);
        Due.report(x, "a0+7");
        due.is("figure(0, 0)", x.figure(0, 0), true);
        due.is("its TARGET", x.figureIs(0, 0), 0);
        due.is("a COUNT", x.counted(0, 0), 7);
        due.is("another COUNT", x.counted(1, 0), 1);
        due.is("HISTORY", x.figureIs(0, 10), 1);
        due.is("PUBLISHED", x.published(0, 0), 100);
        due.is("figures", x.count(3), 1);
    }

    @Edge(promise = 4, says = "false: no such ones.")
    static void figureOfNoSuchOnes(Due due) {
        YearFigures x = new YearFigures();
        x.figure(3, 7);
        due.is("no such TARGET of one that is told", x.figure(3, 10000), false);
        due.is("it has the one before", x.figureIs(3, 0), 7);
        due.is("no such TARGET of one that is not told", x.figure(2, -1), false);
        due.is("it is not told still", x.figureIs(2, 0), -1);
        due.is("neither such a figure nor such a TARGET", x.figure(6, -1), false);
        due.is("figures", x.count(3), 8);
    }

    @Edge(promise = 5, says = "STAFF: so many DAYS in a YEAR")
    static void soManyDaysInEachYear(Due due) {
        YearFigures x = Due.office(1, 1);
        Due.law(x, "k1(1=1)");
        x.staff(2);
        due.is("2 in each of five YEARS", x.tried(60, 2), 10);
        x.months(12);
        due.is("all are left again", x.count(5), 2);
        due.is("STAFF", x.count(6), 2);
        due.is("what was made", x.published(0, 0), 2);
    }

    @Edge(promise = 5, says = "false: no such number.")
    static void staffOfNoSuchNumber(Due due) {
        YearFigures x = Due.office(1, 1);
        x.staff(3);
        x.keep();
        x.staff(8);
        x.undo();
        due.is("staff(-1)", x.staff(-1), false);
        due.is("staff(10000)", x.staff(10000), false);
        due.is("STAFF stays", x.count(6), 8);
        due.is("DAYS that are left stay", x.count(5), 3);
    }

    @Edge(promise = 5, says = "STAFF (0 to 9999 DAYS in a YEAR")
    static void staffFromZeroTo9999(Due due) {
        YearFigures x = new YearFigures();
        x.staff(5);
        for (int days : Due.outside(0, 9999)) {
            due.is("staff(" + days + ")", x.staff(days), false);
        }
        due.is("STAFF as it was", x.count(6), 5);
        due.is("DAYS as they were", x.count(5), 5);
        due.is("staff(9999)", x.staff(9999), true);
        due.is("STAFF 9999", x.count(6), 9999);
        due.is("staff(0)", x.staff(0), true);
        due.is("STAFF 0", x.count(6), 0);
    }

    @Edge(promise = 5, says = "(all of them are left in this YEAR now): true")
    static void allDaysAreLeftNow(Due due) {
        YearFigures x = Due.office(1, 1);
        x.staff(3);
        x.keep();
        x.staff(8);
        due.is("more than were left", x.count(5), 8);
        x.undo();
        due.is("fewer are left than STAFF has", x.count(5), 3);
        due.is("the same STAFF again", x.staff(8), true);
        due.is("all of them are left", x.count(5), 8);
        x.months(11);
        due.is("in December", x.staff(2), true);
        due.is("fewer than were left", x.count(5), 2);
        Due.law(x, "k1(1=1)");
        due.is("so many can be used", x.tried(1, 2), 2);
        due.is("and as many in the next YEAR", x.tried(13, 2) + x.tried(13, 3), 8);
    }

    @Edge(promise = 11, says = "A COUNT of a told county and a told figure")
    static void countedFrom0To9999(Due due) {
        YearFigures x = Due.office(6, 6);
        due.is("the least", x.counted(5, 5), 0);
        for (int i = 0; i < 11; i++) {
            Due.report(x, "f5+999;a0+1");
        }
        due.is("the most", x.counted(5, 5), 9999);
        due.is("the first county and figure", x.counted(0, 0), 11);
        due.is("of both", x.counted(0, 5) + x.counted(5, 0), 0);
    }

    @Edge(promise = 11, says = "NONE: no such ones.")
    static void countedOfNoSuchOnes(Due due) {
        YearFigures x = new YearFigures();
        due.is("none is told", x.counted(0, 0), -1);
        x.county(5, 1);
        due.is("the figure is not told", x.counted(5, 5), -1);
        x.figure(5, 1);
        due.is("0 of both", x.counted(5, 5), 0);
        due.is("the county is not told", x.counted(4, 5), -1);
        due.is("another figure is not told", x.counted(5, 4), -1);
        for (int i : Due.outside(0, 5)) {
            due.is("counted(" + i + ", 5)", x.counted(i, 5), -1);
            due.is("counted(5, " + i + ")", x.counted(5, i), -1);
        }
    }

    @Edge(promise = 16, says = "A REGION: told counties that come to each other by NEXT ones: how many; one's (bits).")
    static void regionsOfAllAndOfNone(Due due) {
        YearFigures x = new YearFigures();
        due.is("no county, no REGION", x.regions(100), 0);
        x.county(5, 0);
        due.is("one county", x.regions(100), 1);
        due.is("its REGION is itself", x.regions(5), 32);
        YearFigures y = Due.office(6, 0);
        due.is("none is NEXT", y.regions(100), 6);
        for (int c = 0; c < 6; c++) {
            due.is("alone " + c, y.regions(c), 1 << c);
        }
        // a chain in which each step leads to the one that was told farthest away: 0 5 1 4 2 3
        int[] chain = {0, 5, 1, 4, 2, 3};
        for (int i = 0; i < 5; i++) {
            y.next(chain[i], chain[i + 1], true);
            due.is("REGIONS behind " + (i + 1), y.regions(100), 5 - i);
        }
        due.is("from the one end", y.regions(0), 63);
        due.is("from the other end", y.regions(3), 63);
        y.next(1, 4, false);
        due.is("two halves", y.regions(100), 2);
        due.is("the one", y.regions(5), 35);
        due.is("the other", y.regions(3), 28);
    }

    @Edge(promise = 16, says = "REGIONS, what 100 how many, else the one of told county what (bits)")
    static void regionsOfTheFirstAndTheLast(Due due) {
        YearFigures x = new YearFigures();
        x.county(0, 0);
        x.county(5, 0);
        due.is("how many", x.regions(100), 2);
        due.is("the one of a", x.regions(0), 1);
        due.is("the one of f", x.regions(5), 32);
        x.next(5, 0, true);
        due.is("how many then", x.regions(100), 1);
        due.is("the one of f then", x.regions(5), 33);
    }

    @Edge(promise = 16, says = "NONE: no such ones.")
    static void regionsOfNoSuchOnes(Due due) {
        YearFigures x = Due.office(5, 0);
        due.is("the last told county", x.regions(4), 16);
        due.is("one that is not told", x.regions(5), -1);
        int[] wrong = {-1, 6, 99, 101, 32, 64, 100 + 256, Integer.MIN_VALUE, Integer.MAX_VALUE};
        for (int what : wrong) {
            due.is("regions(" + what + ")", x.regions(what), -1);
        }
    }

    @Edge(promise = 31, says = "THE SEED (0 to 65535; X, too): true")
    static void seedFromZeroTo65535(Due due) {
        YearFigures x = new YearFigures();
        due.is("seed(65535)", x.seed(65535), true);
        due.is("X", x.count(9), 65535);
        due.is("seed(0)", x.seed(0), true);
        due.is("X then", x.count(9), 0);
    }

    @Edge(promise = 31, says = "false: no such number.")
    static void seedOutsideIsRefused(Due due) {
        YearFigures x = new YearFigures();
        x.seed(77);
        for (int seed : Due.outside(0, 65535)) {
            due.is("seed(" + seed + ")", x.seed(seed), false);
        }
        due.is("X stays", x.count(9), 77);
    }

    @Edge(promise = 31, says = "DRAWS: X = (25173 X + 13849) modulo 65536")
    static void drawsWrapAround(Due due) {
        YearFigures x = Due.office(1, 1);
        // each is 25173 times the one before and 13849, less as many 65536 as go
        int[][] due2 = {{0, 13849}, {65535, 54212}, {1, 39022}, {2, 64195}, {3, 23832}, {32768, 46617}};
        for (int[] one : due2) {
            x.seed(one[0]);
            x.months(1);
            due.is("X behind " + one[0], x.count(9), one[1]);
        }
        x.seed(1);
        long drawn = 1;
        for (int i = 0; i < 30; i++) {
            x.months(1);
            drawn = (25173 * drawn + 13849) % 65536;
            due.is("X " + i, x.count(9), drawn);
        }
    }

    @Edge(promise = 35, says = "0 THE YEAR, 1 THE MONTH, 2 told counties (bits), 3 told figures (bits), 4 CAME OUT, 5 DAYS of STAFF that are "
        + "left, 6 STAFF, 7 RULES, 8 bytes of the tape, 9 X, 10 told RECORDS (bits), 11 told DEFINITIONS (bits), 12 all PEOPLE")
    static void countsAtTheirMost(Due due) {
        YearFigures x = Due.office(6, 6);
        for (int i = 0; i < 6; i++) {
            x.county(i, 9999);
            x.figure(i, 0);
            Due.definition(x, i, "(1=1)");
        }
        for (int r = 0; r < 20; r++) {
            x.record(r, 0, 0, 0, 0);
        }
        for (int i = 0; i < 199; i++) {
            x.months(60);
        }
        x.months(48);
        Due.law(x, "x(c=0);".repeat(16).substring(0, 111));
        x.staff(9999);
        x.seed(65535);
        for (int i = 0; i < 13; i++) {
            x.feed(0, 0, 0, 0, 0);
        }
        int[] most = {999, 0, 63, 63, 6 * 999, 9999, 9999, 16, 260, 65535, (1 << 20) - 1, 63, 6 * 9999};
        for (int what = 0; what < most.length; what++) {
            due.is("count(" + what + ")", x.count(what), most[what]);
        }
    }

    @Edge(promise = 35, says = "20 + c counties NEXT to told county c (bits), 30 + c PEOPLE of told county c.")
    static void countsOfToldCountiesOnly(Due due) {
        YearFigures x = new YearFigures();
        x.county(0, 0);
        x.county(5, 9999);
        x.next(0, 5, true);
        int[] next = {32, -1, -1, -1, -1, 1};
        int[] people = {0, -1, -1, -1, -1, 9999};
        for (int c = 0; c < 6; c++) {
            due.is("count(20 + " + c + ")", x.count(20 + c), next[c]);
            due.is("count(30 + " + c + ")", x.count(30 + c), people[c]);
        }
    }

    @Edge(promise = 35, says = "NONE for others.")
    static void countOfOthersIsNone(Due due) {
        YearFigures x = Due.office(6, 6);
        int[] none = {-1, -2, 13, 14, 19, 26, 29, 36, 37, 40, 99, 100, 256, 276, 65536, Integer.MIN_VALUE, Integer.MAX_VALUE};
        for (int what : none) {
            due.is("count(" + what + ")", x.count(what), -1);
        }
    }
}
