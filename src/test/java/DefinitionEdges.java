/** Edges of promises 21, 22 and 23: definitions, what falls under them, and by how many of them. */
final class DefinitionEdges {
    private DefinitionEdges() {
    }

    /** Twenty records of ages 0 to 19. */
    private static YearFigures twenty() {
        YearFigures x = new YearFigures();
        for (int r = 0; r < 20; r++) {
            x.record(r, 0, r, 0, 0);
        }
        return x;
    }

    /** A definition of 80 bytes that always holds. */
    private static String longest() {
        return "(" + "1+".repeat(37) + "1=38)";
    }

    private static void faults(Due due, Object[][] texts) {
        YearFigures x = new YearFigures();
        for (Object[] one : texts) {
            due.is("definition of " + one[0], Due.definition(x, 0, (String) one[0]), (int) one[1]);
        }
    }

    @Edge(promise = 21, says = "DEFINITION d by the first n bytes of the tape (1 to 80; empty then)")
    static void definitionOf1To80Bytes(Due due) {
        YearFigures x = twenty();
        Due.feed(x, longest() + ")");
        due.is("longest", longest().length(), 80);
        for (int n : Due.outside(1, 80)) {
            due.is("definition(0, " + n + ")", x.definition(0, n), -1);
        }
        due.is("the tape stays", x.count(8), 100);
        due.is("none is told", x.count(11), 0);
        due.is("definition(0, 80)", x.definition(0, 80), 20);
        due.is("the tape is empty then", x.count(8), 0);
        Due.feed(x, "(");
        due.is("definition(0, 1)", x.definition(0, 1), -1001);
        due.is("empty behind a FAULT, too", x.count(8), 0);
        Due.feed(x, "(g<7))))");
        due.is("of the first bytes only", x.definition(0, 5), 7);
        due.is("the others are gone", x.count(8), 0);
    }

    @Edge(promise = 21, says = "DEFINITIONS 0 to 5: told or not, each a TEXT of at most 80 bytes")
    static void definitionsFromZeroToFive(Due due) {
        YearFigures x = twenty();
        Due.feed(x, "(g<7)");
        for (int d : Due.outside(0, 5)) {
            due.is("definition(" + d + ", 5)", x.definition(d, 5), -1);
        }
        due.is("the tape stays", x.count(8), 20);
        due.is("none is told", x.count(11), 0);
        due.is("definition(5, 5)", x.definition(5, 5), 7);
        due.is("told", x.count(11), 32);
        due.is("definition 0", Due.definition(x, 0, "(g<3)"), 3);
        due.is("told then", x.count(11), 33);
        due.is("each has its own", x.fallsUnder(5), 127);
    }

    @Edge(promise = 21, says = "(C) as in THE LAW.")
    static void definitionsAreACInBrackets(Due due) {
        faults(due, new Object[][] {{"g>3", -1000}, {"(g>3)", 0}, {"!(g>3)", -1000}, {"[g>3]", -1000}, {"x(g>3)", -1000},
            {"n1(g>3)", -1000}, {"(g>3)|(g>3)", -1005}, {"(g>3)&(g>3)", -1005}, {"(g>3);(g>3)", -1005}, {"(g>3);", -1005},
            {"(g>3))", -1005}, {"(g>3)\0", -1005}, {"\0(g>3)", -1000}, {"(g>3\0)", -1004}, {"(g>3) ", -1005}, {" (g>3)", -1000}, {"()", -1001}, {"(g)", -1002}, {"(g>3", -1004},
            {"(g>99999)", 0}, {"(g>100000)", -2008}, {"((((((g>3))))))", 0}, {"(((((((g>3)))))))", -5006}, {"(!!!!!!g>3)", -5006},
            {"([[[[[[g]]]]]]>3)", -5006}, {"(z>3)", -1001}, {"(n>3)", -1001}});
        YearFigures x = new YearFigures();
        String text = "(!(1=1|t>p&m<y)&[[h]]=q)";
        for (int n = 1; n < text.length(); n++) {
            Due.feed(x, text);
            due.is("the first " + n, x.definition(0, n), -1000 - n);
        }
    }

    @Edge(promise = 21, says = "in place of the one before: how many RECORDS fall under it")
    static void definitionInPlaceOfTheOneBefore(Due due) {
        YearFigures x = twenty();
        due.is("all", Due.definition(x, 3, "(g>g-1)"), 20);
        due.is("which", x.fallsUnder(3), (1 << 20) - 1);
        due.is("none", Due.definition(x, 3, "(g>19)"), 0);
        due.is("none of them", x.fallsUnder(3), 0);
        due.is("one", Due.definition(x, 3, "(g>18)"), 1);
        due.is("the last", x.fallsUnder(3), 1 << 19);
        due.is("told", x.count(11), 8);
        for (int i = 0; i < 20; i++) {
            due.is("one after the other " + i, Due.definition(x, 5, "(" + "1+".repeat(35) + "1=36&g<" + i % 10 + ")"), i % 10);
        }
        due.is("of no RECORDS", Due.definition(new YearFigures(), 0, "(1=1)"), 0);
    }

    @Edge(promise = 21, says = "how many RECORDS fall under it; a FAULT;")
    static void definitionWithAFaultChangesNothing(Due due) {
        YearFigures x = twenty();
        Due.definition(x, 1, "(g<4)");
        Object[][] texts = {{"(g<9", -1004}, {"(g<9)+", -1005}, {"(g<100000)", -2008}, {"(((((((g<9)))))))", -5006}, {"g", -1000},
            {longest().substring(0, 79) + "]", -1079}, {longest().substring(0, 79), -1079}};
        for (Object[] one : texts) {
            due.is("definition of " + one[0], Due.definition(x, 1, (String) one[0]), (int) one[1]);
            due.is("the one before stays", x.fallsUnder(1), 15);
            due.is("one that is not told", Due.definition(x, 0, (String) one[0]), (int) one[1]);
            due.is("it is not told still", x.count(11), 2);
        }
    }

    @Edge(promise = 21, says = "NONE: no such ones, it has not so many (the tape stays).")
    static void definitionOfMoreThanTheTapeHas(Due due) {
        YearFigures x = twenty();
        due.is("of an empty tape", x.definition(0, 1), -1);
        Due.feed(x, "(11111=11111&g<3333)");
        due.is("one more than it has", x.definition(0, 21), -1);
        due.is("it stays", x.count(8), 20);
        due.is("none is told", x.count(11), 0);
        due.is("all that it has", x.definition(0, 20), 20);
    }

    @Edge(promise = 21, says = "y THE YEAR (in a DEFINITION 0)")
    static void lettersOfTheLawAre0InADefinition(Due due) {
        YearFigures x = Due.office(6, 6);
        x.months(17);
        Due.report(x, "f0+9;f5+9;a0+9;a5+9");
        Due.law(x, "n1(1=1)");
        x.tried(1, 0);
        x.record(0, 5, 1, 1, 1);
        String[] letters = {"f", "a", "s", "t", "p", "m", "y"};
        for (String letter : letters) {
            due.is(letter + " is 0", Due.definition(x, 0, "(" + letter + "=0)"), 1);
        }
    }

    @Edge(promise = 21, says = "r the RECORD, c its county, g AGE, h HOUR, q KIND")
    static void lettersOfARecordAtTheirEdges(Due due) {
        YearFigures x = new YearFigures();
        x.record(0, 0, 0, 0, 0);
        x.record(19, 5, 99, 23, 9);
        due.is("all 0", Due.definition(x, 0, "(r=0&c=0&g=0&h=0&q=0)"), 1);
        due.is("which", x.fallsUnder(0), 1);
        due.is("all the most", Due.definition(x, 0, "(r=19&c=5&g=99&h=23&q=9)"), 1);
        due.is("which then", x.fallsUnder(0), 1 << 19);
    }

    @Edge(promise = 21, says = "what is divided by 0 is REFUSED: then a C does not hold")
    static void definitionDividedBy0(Due due) {
        YearFigures x = twenty();
        due.is("for RECORD 0 alone it is REFUSED", Due.definition(x, 0, "(1/r>1|1=1)"), 19);
        due.is("which", x.fallsUnder(0), (1 << 20) - 2);
        due.is("whatever it is behind a !", Due.definition(x, 0, "(!1%r=5)"), 19);
        due.is("not asked", Due.definition(x, 0, "(r=0|1/r=1)"), 2);
    }

    @Edge(promise = 22, says = "FALLS UNDER a told DEFINITION: RECORDS (bits)")
    static void recordsAsTheyAreNow(Due due) {
        YearFigures x = twenty();
        Due.definition(x, 5, "(g=99)");
        due.is("none", x.fallsUnder(5), 0);
        x.record(19, 0, 99, 0, 0);
        due.is("the last RECORD", x.fallsUnder(5), 1 << 19);
        x.record(0, 0, 99, 0, 0);
        due.is("the first, too", x.fallsUnder(5), 1 << 19 | 1);
        x.record(19, 0, 98, 0, 0);
        due.is("the last no more", x.fallsUnder(5), 1);
    }

    @Edge(promise = 22, says = "FALLS UNDER: told RECORDS for which it holds (bits).")
    static void toldRecordsOnly(Due due) {
        YearFigures x = new YearFigures();
        Due.definition(x, 0, "(1=1)");
        due.is("no RECORD is told", x.fallsUnder(0), 0);
        x.record(19, 0, 0, 0, 0);
        due.is("the last", x.fallsUnder(0), 1 << 19);
        for (int r = 0; r < 20; r++) {
            x.record(r, 0, 0, 0, 0);
        }
        due.is("all", x.fallsUnder(0), (1 << 20) - 1);
    }

    @Edge(promise = 22, says = "NONE: no such one.")
    static void fallsUnderNoSuchOne(Due due) {
        YearFigures x = twenty();
        for (int d = 0; d < 6; d++) {
            due.is("not told", x.fallsUnder(d), -1);
        }
        Due.definition(x, 0, "(g=0)");
        Due.definition(x, 5, "(g=5)");
        due.is("the first", x.fallsUnder(0), 1);
        due.is("the last", x.fallsUnder(5), 32);
        due.is("between them", x.fallsUnder(4), -1);
        for (int d : Due.outside(0, 5)) {
            due.is("fallsUnder(" + d + ")", x.fallsUnder(d), -1);
        }
    }

    @Edge(promise = 23, says = "JOINED for so many RECORDS (0 to 20), what 0 how many DEFINITIONS, 1 which (bits)")
    static void joinedFrom0To20(Due due) {
        YearFigures x = twenty();
        Due.definition(x, 5, "(1=1)");
        due.is("0 RECORDS, by none", x.joined(0, 0), 0);
        due.is("0 RECORDS, no bits", x.joined(0, 1), 0);
        due.is("20 RECORDS", x.joined(20, 0), 1);
        due.is("20 RECORDS, bits", x.joined(20, 1), 32);
        for (int d = 0; d < 5; d++) {
            Due.definition(x, d, "(g/4=" + d + ")");
        }
        Due.definition(x, 5, "(1=2)");
        due.is("0 RECORDS, by none still", x.joined(0, 0), 0);
        due.is("0 RECORDS, no bits still", x.joined(0, 1), 0);
        due.is("20 RECORDS by five", x.joined(20, 0), 5);
        due.is("20 RECORDS by five, bits", x.joined(20, 1), 31);
        Due.definition(x, 4, "(g>15&g<19)");
        Due.definition(x, 5, "(g=19)");
        due.is("20 RECORDS by all six", x.joined(20, 1), 63);
        due.is("by all six", x.joined(20, 0), 6);
    }

    @Edge(promise = 23, says = "-2: not by any")
    static void joinedNotByAny(Due due) {
        YearFigures x = twenty();
        due.is("without a DEFINITION", x.joined(1, 0), -2);
        Due.definition(x, 0, "(g<7)");
        Due.definition(x, 1, "(g<9)");
        int[] not = {1, 6, 8, 10, 16, 20};
        for (int many : not) {
            due.is("joined(" + many + ", 0)", x.joined(many, 0), -2);
            due.is("joined(" + many + ", 1)", x.joined(many, 1), -2);
        }
    }

    @Edge(promise = 23, says = "NONE: no such ones.")
    static void joinedOfNoSuchOnes(Due due) {
        YearFigures x = twenty();
        Due.definition(x, 0, "(g<7)");
        for (int many : Due.outside(0, 20)) {
            due.is("joined(" + many + ", 0)", x.joined(many, 0), -1);
        }
        for (int what : Due.outside(0, 1)) {
            due.is("joined(7, " + what + ")", x.joined(7, what), -1);
            due.is("joined(8, " + what + ")", x.joined(8, what), -1);
        }
    }

    @Edge(promise = 23, says = "the fewest told DEFINITIONS by which just so many RECORDS fall under one of them at least; of like ones the least bits.")
    static void theFewestThenTheLeastBits(Due due) {
        YearFigures x = twenty();
        Due.definition(x, 0, "(g<2)");
        Due.definition(x, 1, "(g>1&g<4)");
        Due.definition(x, 2, "(g>3&g<6)");
        Due.definition(x, 4, "(g<6)");
        Due.definition(x, 5, "(g>13)");
        due.is("6 by one, not by three with less bits", x.joined(6, 1), 16);
        due.is("how many", x.joined(6, 0), 1);
        due.is("2 by the lowest of three", x.joined(2, 1), 1);
        due.is("4 by the lowest two of three", x.joined(4, 1), 3);
        due.is("8: 0 and 5, of 0 1 2 with 5", x.joined(8, 1), 33);
        due.is("12 by two that have none in common", x.joined(12, 1), 48);
        Due.definition(x, 1, "(g<4)");
        due.is("those that fall under both are counted once", x.joined(6, 1), 16);
        due.is("4 by one now", x.joined(4, 1), 2);
        due.is("a DEFINITION that is not told is not taken", x.joined(12, 1), 48);
    }
}
