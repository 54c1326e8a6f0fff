/** Edges of promise 7: what the rules of a law mean, asked by what happens in months that are tried. */
final class LawEdges {
    private LawEdges() {
    }

    private static YearFigures under(String law) {
        return Due.under(1, 1, law);
    }

    /** How many happen in a month by an E: 0 to 99. */
    private static void value(Due due, String e, int want) {
        due.is(e, under("n" + e + "(1=1)").tried(1, 0), want);
    }

    private static void holds(Due due, String c, boolean want) {
        due.is(c, under("n1(" + c + ")").tried(1, 0), want ? 1 : 0);
    }

    /** How many DAYS one more is in December by a k. */
    private static int dear(String law) {
        YearFigures x = under(law);
        x.figure(0, 1);
        return x.figureIs(0, 3);
    }

    @Edge(promise = 7, says = "n how many happen in a county in a MONTH (0 to 99)")
    static void howManyHappen(Due due) {
        int[][] all = {{0, 0}, {1, 1}, {98, 98}, {99, 99}, {100, 99}, {99999, 99}};
        for (int[] one : all) {
            value(due, "" + one[0], one[1]);
        }
        value(due, "0-1", 0);
        value(due, "0-99999", 0);
        YearFigures x = Due.office(6, 1);
        Due.law(x, "n99999(1=1)");
        due.is("in each county", x.tried(1, 0), 6 * 99);
    }

    @Edge(promise = 7, says = "d tenths that one more happens (0 to 10)")
    static void tenths(Due due) {
        // the first 60 draws are each of 0 to 9 at least once
        int[] tenths = {0, 0, 10, 10, 10};
        String[] rules = {"d0(1=1)", "d0-5(1=1)", "d10(1=1)", "d11(1=1)", "d99999(1=1)"};
        for (int i = 0; i < rules.length; i++) {
            due.is(rules[i], under(rules[i]).tried(60, 0), 6 * tenths[i]);
        }
        int drawn = 1;
        int[] below = new int[11];
        for (int i = 0; i < 60; i++) {
            drawn = (25173 * drawn + 13849) % 65536;
            for (int d = drawn % 10 + 1; d <= 10; d++) {
                below[d]++;
            }
        }
        for (int d = 0; d <= 10; d++) {
            due.is("d" + d, under("d" + d + "(1=1)").tried(60, 0), below[d]);
            due.is("each d has its own", d == 0 || below[d] > below[d - 1], true);
        }
    }

    @Edge(promise = 7, says = "k DAYS of STAFF for one more in December (0 to 99)")
    static void daysForOneMore(Due due) {
        String[] rules = {"k0(1=1)", "k0-1(1=1)", "k1(1=1)", "k98(1=1)", "k99(1=1)", "k100(1=1)", "k99999(1=1)"};
        int[] days = {0, 0, 1, 98, 99, 99, 99};
        for (int i = 0; i < rules.length; i++) {
            due.is(rules[i], dear(rules[i]), days[i]);
        }
    }

    @Edge(promise = 7, says = "x what happens is not COUNTED (any will do; without an x in THE LAW all is)")
    static void whatIsNotCounted(Due due) {
        due.is("without an x", under("n5(1=1)").tried(1, 10), 5);
        due.is("one that does not hold", under("n5(1=1);x(1=2)").tried(1, 10), 5);
        due.is("one that holds", under("n5(1=1);x(1=1)").tried(1, 10), 0);
        due.is("the last of three", under("n5(1=1);x(1=2);x(2=3);x(1=1)").tried(1, 10), 0);
        due.is("the first of three", under("x(1=1);x(2=3);x(1=2);n5(1=1)").tried(1, 10), 0);
        due.is("it happened nevertheless", under("n5(1=1);x(1=1)").tried(1, 0), 5);
    }

    @Edge(promise = 7, says = "of the first RULE of n, d, k whose C holds the E (beyond its bounds the bound; none: 0)")
    static void firstRuleWhoseCHolds(Due due) {
        due.is("the first of two that hold", under("n5(1=1);n6(1=1)").tried(1, 0), 5);
        due.is("the second holds", under("n5(1=2);n6(1=1)").tried(1, 0), 6);
        due.is("a bound of the first, not the second", under("n500(1=1);n6(1=1)").tried(1, 0), 99);
        due.is("0 of the first, not the second", under("n0-6(1=1);n6(1=1)").tried(1, 0), 0);
        due.is("none holds", under("n5(1=2);n6(2=1)").tried(1, 0), 0);
        due.is("none of n", under("d0(1=1);k5(1=1);x(1=1)").tried(1, 0), 0);
        due.is("none of d", under("n3(1=1);d10(1=2)").tried(60, 0), 180);
        due.is("none of k", dear("n3(1=1);d10(1=1);k5(1=2)"), 0);
        due.is("the first of d", under("d10(1=2);d10(1=1);d0(1=1)").tried(60, 0), 60);
        due.is("the first of k", dear("k7(1=2);k8(1=1);k9(1=1)"), 8);
        due.is("the 16th RULE", under("n1(1=2);".repeat(15) + "n16(1=1)").tried(1, 0), 16);
        due.is("letters do not stand in each other's way", under("k9(1=1);d10(1=1);n5(1=1)").tried(1, 0), 6);
    }

    @Edge(promise = 7, says = "C: PARTS with a | between two, one of which must hold")
    static void oneOfThePartsMustHold(Due due) {
        holds(due, "1=2|1=2", false);
        holds(due, "1=1|1=2", true);
        holds(due, "1=2|1=1", true);
        holds(due, "1=1|1=1", true);
        holds(due, "0=1|".repeat(57) + "0=0", true);
        holds(due, "0=1|".repeat(57) + "0=2", false);
    }

    @Edge(promise = 7, says = "a PART: TESTS with an & between two, all of which must")
    static void allOfTheTestsMustHold(Due due) {
        holds(due, "1=1&1=1", true);
        holds(due, "1=2&1=1", false);
        holds(due, "1=1&1=2", false);
        holds(due, "1=2&1=1|1=1", true);
        holds(due, "1=1|1=1&1=2", true);
        holds(due, "(1=1|1=1)&1=2", false);
        holds(due, "1=1&1=2|1=2&1=1", false);
        holds(due, "0=0&".repeat(57) + "0=0", true);
        holds(due, "0=0&".repeat(57) + "0=1", false);
    }

    @Edge(promise = 7, says = "a TEST: !TEST, (C), or E, one of < > =, and E")
    static void testsAtTheirEdge(Due due) {
        holds(due, "4<5", true);
        holds(due, "5<5", false);
        holds(due, "6<5", false);
        holds(due, "4>5", false);
        holds(due, "5>5", false);
        holds(due, "6>5", true);
        holds(due, "4=5", false);
        holds(due, "5=5", true);
        holds(due, "6=5", false);
        holds(due, "0-1<0", true);
        holds(due, "0>0-1", true);
        holds(due, "!4<5", false);
        holds(due, "!5<5", true);
        holds(due, "!6>5", false);
        holds(due, "!5>5", true);
        holds(due, "!5=5", false);
        holds(due, "!!5=5", true);
        holds(due, "!!!!!5=5", false);
        holds(due, "!5=4&5=5", true);
        holds(due, "!5=5|5=5", true);
        holds(due, "!(5=5|5=5)", false);
        holds(due, "(((((5=5)))))", true);
    }

    @Edge(promise = 7, says = "E: TERMS with + or - between two; a TERM: FACTORS with one of * / % between two; from the left on")
    static void reckonedFromTheLeftOn(Due due) {
        value(due, "9-4-3", 2);
        value(due, "9-[4-3]", 8);
        value(due, "64/4/2", 8);
        value(due, "64/[4/2]", 32);
        value(due, "7*5%4", 3);
        value(due, "7*[5%4]", 7);
        value(due, "2+3*4", 14);
        value(due, "2*3+4", 10);
        value(due, "20-2*3-4", 10);
        value(due, "5-5/5", 4);
        value(due, "5%6", 5);
        value(due, "6%6+1", 1);
        value(due, "5/6+1", 1);
        value(due, "50+[0-7]/2", 47);
        value(due, "50+7/[0-2]", 47);
        value(due, "50+[0-7]%4", 47);
        value(due, "50+7%[0-4]", 53);
    }

    @Edge(promise = 7, says = "a number of one to five digits")
    static void numbersOfOneToFiveDigits(Due due) {
        value(due, "7", 7);
        value(due, "07", 7);
        value(due, "00007", 7);
        value(due, "99999-99998", 1);
        value(due, "10000/1000", 10);
        value(due, "00000", 0);
    }

    @Edge(promise = 7, says = "c the county, f the figure, a the COUNT of both, s the COUNT of the figure in all counties, t its TARGET, "
        + "p PEOPLE, m THE MONTH, y THE YEAR")
    static void lettersAtTheirMost(Due due) {
        YearFigures x = Due.office(6, 6);
        x.county(5, 9999);
        x.figure(5, 9999);
        for (int c = 0; c < 6; c++) {
            Due.fill(x, c, 5);
        }
        x.months(11);
        String[] tests = {"c=5", "f=5", "a=9999", "s=59994", "t=9999", "p=9999", "m=11", "y=0", "r=0", "g=0", "h=0", "q=0"};
        for (String test : tests) {
            Due.law(x, "n1(c=5&f=5&" + test + ")");
            due.is(test, x.tried(1, 0), 1);
        }
        YearFigures y = Due.office(1, 1);
        Due.law(y, "n1(m=0);x(y>0)");
        due.is("in MONTH 0 of each YEAR", y.tried(60, 0), 5);
        Due.law(y, "n1(m=11)");
        due.is("in MONTH 11 of each YEAR", y.tried(60, 0), 5);
        Due.law(y, "n1(m>11)");
        due.is("in no MONTH beyond 11", y.tried(60, 0), 0);
        Due.law(y, "n1(y=4)");
        due.is("in the fifth YEAR", y.tried(60, 0), 12);
        due.is("not yet ahead of it", y.tried(48, 0), 0);
    }

    @Edge(promise = 7, says = "in a DEFINITION (in THE LAW 0): r the RECORD")
    static void lettersOfRecordsAre0InALaw(Due due) {
        YearFigures x = Due.office(6, 1);
        x.record(19, 5, 99, 23, 9);
        Due.definition(x, 0, "(r=19)");
        x.fallsUnder(0);
        Due.law(x, "n1(r=0&g=0&h=0&q=0)");
        due.is("in each county all are 0", x.tried(1, 0), 6);
        Due.law(x, "n1(r+g+h+q>0)");
        due.is("in no county one is more", x.tried(1, 0), 0);
    }

    @Edge(promise = 7, says = "All is reckoned with 32 bits, as the machine does")
    static void reckonedWith32Bits(Due due) {
        String most = "[65535*32768+32767]";
        String least = "[65535*32768+32768]";
        holds(due, most + ">0", true);
        holds(due, least + "<0", true);
        holds(due, most + "+1=" + least, true);
        holds(due, least + "-1=" + most, true);
        holds(due, most + "*2=0-2", true);
        holds(due, least + "*2=0", true);
        holds(due, "65536*65536=0", true);
        holds(due, "0-" + least + "=" + least, true);
        holds(due, least + "/[0-1]=" + least, true);
        holds(due, least + "%[0-1]=0", true);
        // 9999800001 less 2 times 4294967296 is 1409865409
        holds(due, "99999*99999=14098*50000*2+65409", true);
        value(due, "99999*99999%100", 9);
        due.is("what wraps around is below the bound", under("n" + least + "(1=1)").tried(1, 0), 0);
        due.is("what does not is above it", under("n" + most + "(1=1)").tried(1, 0), 99);
    }

    @Edge(promise = 7, says = "what is divided by 0 is REFUSED: then a C does not hold, an E is 0.")
    static void dividedBy0(Due due) {
        value(due, "5/0", 0);
        value(due, "5%0", 0);
        value(due, "0/0", 0);
        value(due, "7+5/0", 0);
        value(due, "7+[5%0]", 0);
        value(due, "5/[3-3]+9", 0);
        value(due, "0/5+3", 3);
        value(due, "0%5+3", 3);
        holds(due, "1/0=0", false);
        holds(due, "1%0=0", false);
        holds(due, "0=1/0", false);
        holds(due, "!1/0=0", false);
        holds(due, "!!1/0=0", false);
        holds(due, "!(1/0=1)", false);
        due.is("a C that is REFUSED: the next RULE", under("n5(1/0=0);n3(1=1)").tried(1, 0), 3);
        due.is("an E that is REFUSED: no other RULE", under("n5/0(1=1);n3(1=1)").tried(1, 0), 0);
        due.is("of d", under("d10/0(1=1)").tried(60, 0), 0);
        due.is("of k", dear("k9/0(1=1);k5(1=1)"), 0);
        due.is("of x", under("n5(1=1);x(1/0=0)").tried(1, 10), 5);
        due.is("one more x", under("n5(1=1);x(1/0=0);x(1=1)").tried(1, 10), 0);
    }

    @Edge(promise = 7, says = "Of a C as much is asked, from the left, as matters.")
    static void askedAsMuchAsMatters(Due due) {
        holds(due, "1=1|1/0=0", true);
        holds(due, "1<2|1/0=0", true);
        holds(due, "2>1|1/0=0", true);
        holds(due, "!1=2|1/0=0", true);
        holds(due, "(1<2)|1/0=0", true);
        holds(due, "1/0=0|1=1", false);
        holds(due, "1=2|1/0=0", false);
        holds(due, "!(1=2&1/0=0)", true);
        holds(due, "!(1=1&1/0=0)", false);
        holds(due, "1=2&1/0=0|1=1", true);
        holds(due, "1=1&1/0=0|1=1", false);
        holds(due, "(1=1|1/0=0)&1=1", true);
        holds(due, "(1=1|1/0=0&1/0=0|1/0=0)&1=1", true);
        holds(due, "!(1=1|1/0=0)|1=1", true);
        holds(due, "1=2&1/0=0&1/0=0|1=2&1/0=0|1=1|1/0=0", true);
        due.is("the E of a RULE whose C does not hold", under("n1/0(1=2);n3(1=1)").tried(1, 0), 3);
    }

    @Edge(promise = 7, says = "a TEXT of at most 240 bytes, no blanks (none at first)")
    static void noLawAtFirst(Due due) {
        YearFigures x = Due.office(2, 2);
        due.is("RULES", x.count(7), 0);
        due.is("nothing happens", x.tried(60, 0), 0);
        due.is("one more in December is 0 DAYS", x.figureIs(0, 3), 0);
    }
}
