/** Promises 6, 7, 8, 21 and 34: the tape, laws, reports and definitions as texts with their faults, checks. */
public final class TextsTest {
    private static final Due DUE = new Due("TextsTest");

    public static void main(String[] args) {
        tape();
        reports();
        reportFaults();
        lawFaults();
        lawsKept();
        definitionFaults();
        depth();
        checks();
        DUE.end();
    }

    private static void tape() {
        YearFigures x = Due.office(6, 6);
        DUE.is("law(1) of an empty tape", x.law(1), -1);
        DUE.is("report(1) of an empty tape", x.report(1), -1);
        DUE.is("definition(0, 1) of an empty tape", x.definition(0, 1), -1);
        for (int i = 1; i <= 13; i++) {
            DUE.is("feed " + i, x.feed(0, 0, 0, 0, 0), 20 * i);
        }
        DUE.is("feed 14", x.feed(0, 0, 0, 0, 0), -1);
        DUE.is("bytes", x.count(8), 260);
        DUE.is("law(241)", x.law(241), -1);
        DUE.is("law(0)", x.law(0), -1);
        DUE.is("law(-1)", x.law(-1), -1);
        DUE.is("report(121)", x.report(121), -1);
        DUE.is("report(0)", x.report(0), -1);
        DUE.is("definition(0, 81)", x.definition(0, 81), -1);
        DUE.is("definition(0, 0)", x.definition(0, 0), -1);
        DUE.is("definition(6, 5)", x.definition(6, 5), -1);
        DUE.is("definition(-1, 5)", x.definition(-1, 5), -1);
        DUE.is("check(0, 7)", x.check(0, 7), -2);
        DUE.is("the tape stays", x.count(8), 260);
        DUE.is("law(240)", x.law(240), -1000);
        DUE.is("the tape is empty behind a fault", x.count(8), 0);
        Due.feed(x, "a0+1;a0+1;a0+1;a0+1;a0+1;");
        DUE.is("more bytes than it has", x.report(41), -1);
        DUE.is("the tape stays", x.count(8), 40);
        DUE.is("the first 9", x.report(9), 2);
        DUE.is("the tape is empty behind a report", x.count(8), 0);
        // a is 97, f 102, 0 is 48, 5 is 53, + is 43, 9 is 57: the highest byte of each int comes first
        x.feed(97 << 24 | 48 << 16 | 43 << 8 | 57, 59 << 24 | 102 << 16 | 53 << 8 | 43, 57 << 24, 0, 0);
        DUE.is("bytes by their order", x.report(9), 2);
        DUE.is("counted(0, 0)", x.counted(0, 0), 11);
        DUE.is("counted(5, 5)", x.counted(5, 5), 9);
        x.feed(-1, -1, -1, -1, -1);
        DUE.is("bytes above 127", x.report(1), -1000);
    }

    private static void reports() {
        YearFigures x = Due.office(2, 2);
        DUE.is("one line", Due.report(x, "a0+999"), 1);
        DUE.is("lines one behind the other", Due.report(x, "b1-5;b1+7;b1-3"), 3);
        DUE.is("0 it stays at the least", x.counted(1, 1), 4);
        for (int i = 0; i < 9; i++) {
            Due.report(x, "a0+999");
        }
        DUE.is("9990", x.counted(0, 0), 9990);
        DUE.is("up to the most", Due.report(x, "a0+10;a0-000;a0-01"), 3);
        DUE.is("9999 it stays at the most", x.counted(0, 0), 9998);
        DUE.is("HISTORY is not of reports", x.figureIs(0, 10), 0);
        DUE.is("a fault behind good lines", Due.report(x, "a0-9;a0-9;a2-9"), -7011);
        DUE.is("nothing is COUNTED", x.counted(0, 0), 9998);
    }

    private static void reportFaults() {
        YearFigures x = Due.office(2, 2);
        Object[][] due = {
            {"g0+1", -1000}, {"A0+1", -1000}, {" a0+1", -1000}, {";", -1000}, {"`0+1", -1000},
            {"c0+1", -7000}, {"f", -7000}, {"a", -1001}, {"a6+1", -1001}, {"a/+1", -1001}, {"a2+1", -7001},
            {"a5", -7001}, {"a1", -1002}, {"a0*1", -1002}, {"a0 +1", -1002}, {"a0+", -1003}, {"a0+x", -1003},
            {"a0+;", -1003}, {"a0+:", -1003}, {"a0+1 ", -1004}, {"a0+1:", -1004}, {"a0+1a", -1004}, {"a0+1;", -1005},
            {"a0+1234", -2006}, {"a0-0000;", -2006}, {"a0+12;b1-123;a1+0000", -2019}, {"a0+1;;", -1005}, {"c9", -7000},
            {"a0+123/", -1006}, {"a0+1;a2+99999", -7006}};
        for (Object[] one : due) {
            DUE.is("report of " + one[0], Due.report(x, (String) one[0]), (int) one[1]);
        }
        String twenty = "a0+1;".repeat(20);
        DUE.is("20 lines", Due.report(x, twenty.substring(0, 99)), 20);
        DUE.is("a 21st line", Due.report(x, twenty + "b1+1"), -4100);
        DUE.is("a 21st line of one that is not told", Due.report(x, twenty + "c"), -4100);
        DUE.is("a 21st line that can't stand there", Due.report(x, twenty + "g"), -1100);
        DUE.is("no 21st line", Due.report(x, twenty), -1100);
        DUE.is("counted once", x.counted(0, 0), 20);
        DUE.is("120 bytes", Due.report(x, "a0+000;".repeat(17).substring(0, 118)), 17);
    }

    private static void lawFaults() {
        YearFigures x = new YearFigures();
        Object[][] due = {
            {"n", -1001}, {"c", -1000}, {"N5(1=1)", -1000}, {" n5(1=1)", -1000}, {"n5", -1002}, {"n5(", -1003}, {"n5()", -1003},
            {"n5(1)", -1004}, {"n5(1=)", -1005}, {"n5(1=1", -1006}, {"n5(1=1)", 1}, {"n5(1=1))", -1007}, {"n5(1=1);", -1008},
            {"n5(1=1);;", -1008}, {"n5(1=1)n5(1=1)", -1007}, {"x5(1=1)", -1001}, {"x(1=1)", 1}, {"n(1=1)", -1001},
            {"n+5(1=1)", -1001}, {"n5+(1=1)", -1003}, {"n5++5(1=1)", -1003}, {"n-5(1=1)", -1001}, {"n[5(1=1)", -1003},
            {"n[5]](1=1)", -1004}, {"n[](1=1)", -1002}, {"n5](1=1)", -1002}, {"n5=5(1=1)", -1002}, {"n!5(1=1)", -1001},
            {"n(5)(1=1)", -1001}, {"n99999(1=1)", 1}, {"n000001(1=1)", -2006}, {"n123456789(1=1)", -2006}, {"n123450(1=1)", -2006},
            {"n5(1=1=1)", -1006}, {"n5(1=1&)", -1007}, {"n5(&1=1)", -1003}, {"n5(1=1|)", -1007}, {"n5(1=1||1=1)", -1007},
            {"n5(!)", -1004}, {"n5(!(1=1))", 1}, {"n5(!!1=1)", 1}, {"n5((1=1)=1)", -1008}, {"n5((1)=1)", -1005},
            {"n5([1]=1)", 1}, {"n5([1=1)", -1005}, {"n5(1=1])", -1006}, {"n5(1<1&2>1|!(3=3&1=1))", 1}, {"n5(1==1)", -1005},
            {"n5c(1=1)", -1002}, {"nc5(1=1)", -1002}, {"ncc(1=1)", -1002}, {"n5(b=1)", -1003}, {"n5(x=1)", -1003},
            {"ncfastpmyrghq(1=1)", -1002}, {"nc+f*a-s/t%p+m-y+r*g+h+q(1=1)", 1}, {"n5(1!1)", -1004}, {"n5(1=!1)", -1005},
            {"n5(1= 1)", -1005}, {"n5(1=1);x(1=1);d1(1=1);k1(1=1)", 4}, {"n5(1=1);z", -1008}, {"n5(1=1):n5(1=1)", -1007},
            {"n5(1=1&(1=1)&1=1)", 1}, {"n5(1=1(1=1))", -1006}, {"n5(1=1!1=1)", -1006}, {"n5[1](1=1)", -1002}};
        for (Object[] one : due) {
            DUE.is("law of " + one[0], Due.law(x, (String) one[0]), (int) one[1]);
        }
    }

    private static void lawsKept() {
        YearFigures x = Due.office(1, 1);
        DUE.is("no LAW", x.tried(1, 0), 0);
        DUE.is("a law", Due.law(x, "n7(1=1);x(1=2)"), 2);
        DUE.is("RULES", x.count(7), 2);
        DUE.is("a fault", Due.law(x, "n9(1=1);n9(1=1);n9(1=1"), -1022);
        DUE.is("the one before stays", x.tried(1, 0), 7);
        DUE.is("RULES stay", x.count(7), 2);
        DUE.is("a law in place of it", Due.law(x, "n9(1=1)"), 1);
        DUE.is("by the new one", x.tried(1, 0), 9);
        DUE.is("RULES of it", x.count(7), 1);
        String sixteen = "x(c=0);".repeat(16);
        DUE.is("16 rules", Due.law(x, sixteen.substring(0, 111)), 16);
        DUE.is("a 17th", Due.law(x, sixteen + "k"), -4112);
        DUE.is("a 17th that can't stand there", Due.law(x, sixteen + "r"), -1112);
        DUE.is("no 17th", Due.law(x, sixteen), -1112);
        String longest = "n" + "1+".repeat(116) + "1(1=1)";
        DUE.is("240 bytes", longest.length(), 239);
        DUE.is("a long law", Due.law(x, longest), 1);
        DUE.is("reckoned", x.tried(1, 0), 99);
        String sums = "n1(" + "1+".repeat(110) + "1=111)";
        DUE.is("a long sum", Due.law(x, sums), 1);
        DUE.is("a long sum holds", x.tried(1, 0), 1);
        String ors = "n1(" + "0=1|".repeat(58) + "1=1)";
        DUE.is("239 bytes of |", Due.law(x, ors), 1);
        DUE.is("the last part holds", x.tried(1, 0), 1);
    }

    private static void definitionFaults() {
        YearFigures x = new YearFigures();
        Object[][] due = {
            {"g>3", -1000}, {"(", -1001}, {"()", -1001}, {"(g)", -1002}, {"(g>3", -1004}, {"(g>3)", 0}, {"(g>3))", -1005},
            {"(g>3)|(g>3)", -1005}, {"(g>3);(g>3)", -1005}, {"(g>3);", -1005}, {"[g>3]", -1000}, {"!(g>3)", -1000},
            {"(g>123456)", -2008}, {"(g>12345)", 0}, {"(n=1)", -1001}, {"(z=1)", -1001}, {"(1=1 )", -1004}, {"(|g=1)", -1001}};
        for (Object[] one : due) {
            DUE.is("definition of " + one[0], Due.definition(x, 0, (String) one[0]), (int) one[1]);
        }
        x.record(0, 0, 50, 0, 0);
        DUE.is("how many fall under it", Due.definition(x, 0, "(g=50)"), 1);
        DUE.is("a fault", Due.definition(x, 0, "(g=51"), -1005);
        DUE.is("the one before stays", x.fallsUnder(0), 1);
        DUE.is("a fault of one that is not told", Due.definition(x, 3, "(g=51"), -1005);
        DUE.is("it is not told", x.fallsUnder(3), -1);
        DUE.is("told", x.count(11), 1);
        DUE.is("in place of the one before", Due.definition(x, 0, "(g=51)"), 0);
        String longest = "(" + "1=1&".repeat(18) + "g=50)";
        DUE.is("78 bytes", Due.definition(x, 5, longest), 1);
        DUE.is("80 bytes", Due.definition(x, 5, "(" + "1+".repeat(37) + "1=38)"), 1);
    }

    private static void depth() {
        YearFigures x = new YearFigures();
        Object[][] due = {
            {"((((((g=0))))))", 0}, {"(((((((g=0)))))))", -5006}, {"(!!!!!g=0)", 0}, {"(!!!!!!g=0)", -5006},
            {"([[[[[g]]]]]=0)", 0}, {"([[[[[[g]]]]]]=0)", -5006}, {"(!(!([g]=0)))", 0}, {"(!(!(![g]=0)))", -5006},
            {"(!(!(!!g=0)))", -5006}, {"(!g=0&!g=0&!g=0&!g=0&!g=0&!g=0&!g=0)", 0},
            {"((((((g=0)))))&(((((g=0))))))", 0}, {"(!!!!!g=0&!!!!!g=0)", 0}, {"(!!!!!g=0&!!!!!!g=0)", -5015},
            {"(!!!!![g]=0)", -5006}, {"(!!!!!g=[0])", -5008}, {"(!(!(!(!", -5006}, {"((((((]", -1006}, {"((((((", -1006},
            {"(((((([", -5006}, {"((((((!", -5006}, {"((((((g=0))))&(g=0)))", 0}};
        for (Object[] one : due) {
            DUE.is("definition of " + one[0], Due.definition(x, 0, (String) one[0]), (int) one[1]);
        }
        DUE.is("E of a rule stands ahead of its (", Due.law(x, "n[[[[[[1]]]]]]((((((1=1))))))"), 1);
        DUE.is("a seventh [", Due.law(x, "n[[[[[[[1]]]]]]](1=1)"), -5007);
        DUE.is("[ in a rule's C", Due.law(x, "n1([[[[[1]]]]]=1)"), 1);
        DUE.is("one more", Due.law(x, "n1([[[[[[1]]]]]]=1)"), -5008);
        DUE.is("of x", Due.law(x, "x(((((((1=1)))))))"), -5007);
    }

    private static void checks() {
        YearFigures x = Due.office(3, 2);
        for (int i = 0; i < 3; i++) {
            Due.report(x, "b1+100");
        }
        Due.report(x, "a1+13;c1+255");
        int counts = 13 << 24 | 44 << 16 | 255 << 8;
        x.feed(counts, 0, 0, 0, 0);
        DUE.is("not told", x.check(2, 3), -2);
        DUE.is("check(-1, 3)", x.check(-1, 3), -2);
        DUE.is("check(1, -1)", x.check(1, -1), -2);
        DUE.is("check(1, 7)", x.check(1, 7), -2);
        DUE.is("the tape stays", x.count(8), 20);
        DUE.is("right, 300 through 256 is 44", x.check(1, 3), -1);
        DUE.is("the tape is empty", x.count(8), 0);
        DUE.is("it has not so many", x.check(1, 1), -2);
        DUE.is("none to check", x.check(1, 0), -1);
        x.feed(counts, 0, 0, 0, 0);
        DUE.is("0 of those that are not told", x.check(1, 6), -1);
        x.feed(counts, 1 << 16, 0, 0, 0);
        DUE.is("not 0 of f", x.check(1, 6), 5);
        x.feed(counts, 1 << 16, 0, 0, 0);
        DUE.is("f is not asked", x.check(1, 5), -1);
        x.feed(counts + 1 + (1 << 16), 0, 0, 0, 0);
        DUE.is("the first that is not so", x.check(1, 4), 1);
        x.feed(counts, 0, 0, 0, 0);
        DUE.is("of another figure", x.check(0, 3), 0);
        x.feed(counts, 0, 0, 0, 0);
        DUE.is("none of bytes", x.check(1, 0), -1);
        DUE.is("empty then", x.count(8), 0);
    }
}
