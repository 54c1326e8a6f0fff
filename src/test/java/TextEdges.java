/** Edges of promises 6, 7, 8 and 34: the tape, what of it is read, and the faults of laws and reports. */
final class TextEdges {
    private TextEdges() {
    }

    private static void faults(Due due, Object[][] texts) {
        YearFigures x = Due.office(2, 2);
        for (Object[] one : texts) {
            due.is("law of " + one[0], Due.law(x, (String) one[0]), (int) one[1]);
        }
    }

    private static void reportFaults(Due due, Object[][] texts) {
        YearFigures x = Due.office(2, 2);
        for (Object[] one : texts) {
            due.is("report of " + one[0], Due.report(x, (String) one[0]), (int) one[1]);
        }
    }

    /** A law of 240 bytes in one rule, by which 99 happen. */
    private static String longLaw() {
        return "n" + "1+".repeat(112) + "12" + "(11111=11111)";
    }

    /** A report of 120 bytes in 18 lines, by which county a's figure 0 has 18 more. */
    private static String longReport() {
        return "a0+001;".repeat(13) + "a0+01;".repeat(4) + "a0+01";
    }

    // ---- 6

    @Edge(promise = 6, says = "Twenty bytes come behind the tape, the highest of each int first: how many it has")
    static void bytesInTheirOrder(Due due) {
        YearFigures x = Due.office(6, 1);
        due.is("an empty tape", x.count(8), 0);
        due.is("the first feed", x.feed('a' << 24 | '0' << 16 | '+' << 8 | '1', ';' << 24 | 'b' << 16 | '0' << 8 | '+',
            '2' << 24 | ';' << 16 | 'c' << 8 | '0', '+' << 24 | '3' << 16 | ';' << 8 | 'd', '0' << 24 | '+' << 16 | '4' << 8 | ';'), 20);
        due.is("the second feed, behind it", x.feed('e' << 24 | '0' << 16 | '+' << 8 | '5', ';' << 24, 0, 0, 0), 40);
        due.is("a report of both", x.report(24), 5);
        for (int c = 0; c < 5; c++) {
            due.is("COUNT " + c, x.counted(c, 0), c + 1);
        }
    }

    @Edge(promise = 6, says = "NONE if that would be more than 260.")
    static void fullTape(Due due) {
        YearFigures x = Due.office(1, 1);
        Due.feed(x, longLaw());
        due.is("240 bytes", x.count(8), 240);
        due.is("the 13th feed", x.feed(0, 0, 0, 0, 0), 260);
        due.is("the 14th feed", x.feed(-1, -1, -1, -1, -1), -1);
        due.is("and again", x.feed(0, 0, 0, 0, 0), -1);
        due.is("bytes stay", x.count(8), 260);
        due.is("they are what they were", x.law(240), 1);
        due.is("an empty tape takes them again", x.feed(0, 0, 0, 0, 0), 20);
    }

    @Edge(promise = 6, says = "Twenty bytes come behind the tape")
    static void bytesFrom0To255(Due due) {
        YearFigures x = Due.office(4, 1);
        Due.report(x, "a0+255;b0+128;c0+127");
        x.feed(255 << 24 | 128 << 16 | 127 << 8, -1, Integer.MIN_VALUE, Integer.MAX_VALUE, 0);
        due.is("255, 128, 127, 0 are what they are", x.check(0, 4), -1);
    }

    // ---- 7: how many bytes

    @Edge(promise = 7, says = "THE LAW by the first n bytes of the tape (1 to 240; empty then)")
    static void lawOf1To240Bytes(Due due) {
        YearFigures x = Due.office(1, 1);
        Due.feed(x, longLaw() + longLaw().substring(0, 20));
        due.is("longest", longLaw().length(), 240);
        for (int n : Due.outside(1, 240)) {
            due.is("law(" + n + ")", x.law(n), -1);
        }
        due.is("the tape stays", x.count(8), 260);
        due.is("law(240)", x.law(240), 1);
        due.is("the tape is empty then", x.count(8), 0);
        due.is("what happens by it", x.tried(1, 0), 99);
        Due.feed(x, "n");
        due.is("law(1)", x.law(1), -1001);
        due.is("empty behind a FAULT, too", x.count(8), 0);
    }

    @Edge(promise = 7, says = "by the first n bytes of the tape")
    static void lawOfTheFirstBytesOnly(Due due) {
        YearFigures x = Due.office(1, 1);
        Due.feed(x, "n12(1=1);n34(1=2)));");
        due.is("the first 8", x.law(8), 1);
        due.is("by it", x.tried(1, 0), 12);
        due.is("the others are gone", x.count(8), 0);
        Due.feed(x, "n12(1=1)");
        due.is("the end is behind the first n", x.law(7), -1007);
    }

    @Edge(promise = 7, says = "in place of the one before: how many RULES")
    static void lawInPlaceOfTheOneBefore(Due due) {
        YearFigures x = Due.office(1, 1);
        due.is("16 RULES", Due.law(x, "n1(c=0);".repeat(15) + "x(1=1)"), 16);
        due.is("count", x.count(7), 16);
        due.is("not COUNTED", x.tried(1, 10), 0);
        due.is("one RULE", Due.law(x, "n7(1=1)"), 1);
        due.is("count then", x.count(7), 1);
        due.is("none of the others is left", x.tried(1, 10), 7);
        due.is("one that never holds", Due.law(x, "d1(1=2)"), 1);
        due.is("nothing happens", x.tried(60, 0), 0);
        for (int i = 0; i < 12; i++) {
            due.is("a long one after the other", Due.law(x, "n" + "1+".repeat(100) + i + "-100(1=1)"), 1);
            due.is("what happens by it", x.tried(1, 0), i);
        }
    }

    @Edge(promise = 7, says = "a FAULT: -1000 times its number, less its place (the one before stays)")
    static void lawWithAFaultChangesNothing(Due due) {
        YearFigures x = Due.office(1, 1);
        Due.law(x, "n7(1=1);x(1=2)");
        Object[][] texts = {{"y", -1000}, {longLaw().substring(0, 239), -1239}, {longLaw().substring(0, 239) + "]", -1239},
            {"n123456(1=1)", -2006}, {"n1(1=1);".repeat(16) + "n", -4128}, {"n1(!!!!!!!1=1)", -5008},
            {"n9(1=1);n9(1=1);n9(1=1);z", -1024}};
        for (Object[] one : texts) {
            due.is("law of " + one[0], Due.law(x, (String) one[0]), (int) one[1]);
            due.is("RULES", x.count(7), 2);
            due.is("by the one before", x.tried(1, 10), 7);
        }
    }

    @Edge(promise = 7, says = "NONE: no such n, it has not so many (the tape stays).")
    static void lawOfMoreThanTheTapeHas(Due due) {
        YearFigures x = Due.office(1, 1);
        due.is("of an empty tape", x.law(1), -1);
        Due.feed(x, "n12(1=1);n34(1=1111)");
        due.is("one more than it has", x.law(21), -1);
        due.is("it stays", x.count(8), 20);
        due.is("all that it has", x.law(20), 2);
    }

    // ---- 7: faults

    @Edge(promise = 7, says = "THE LAW: a TEXT of at most 240 bytes, no blanks")
    static void lawWithBlanks(Due due) {
        String text = "n1+c(!(1=1|2>1)&3<4);x(c=1)";
        YearFigures x = new YearFigures();
        due.is("without a blank", Due.law(x, text), 2);
        for (int at = 0; at <= text.length(); at++) {
            String changed = text.substring(0, at) + " " + text.substring(at);
            due.is("law of " + changed, Due.law(x, changed), -1000 - at);
        }
    }

    @Edge(promise = 7, says = "RULES (16 at most) with a ; (59) between two")
    static void rulesWithASemicolonBetweenTwo(Due due) {
        faults(due, new Object[][] {{";", -1000}, {";n1(1=1)", -1000}, {"n1(1=1);", -1008}, {"n1(1=1);;n1(1=1)", -1008},
            {"n1(1=1)n1(1=1)", -1007}, {"n1(1=1):n1(1=1)", -1007}, {"n1(1=1)<n1(1=1)", -1007}, {"n1(1=1);n1(1=1)", 2},
            {"n1(1=1;2=2)", -1006}, {"n1;2(1=1)", -1002}});
        YearFigures x = new YearFigures();
        for (int rules = 1; rules <= 16; rules++) {
            String text = "x(c=0);".repeat(rules);
            due.is(rules + " RULES", Due.law(x, text.substring(0, text.length() - 1)), rules);
        }
    }

    @Edge(promise = 7, says = "a letter, E, and (C), of x only (C)")
    static void partsOfARule(Due due) {
        faults(due, new Object[][] {{"n(1=1)", -1001}, {"d(1=1)", -1001}, {"k(1=1)", -1001}, {"x(1=1)", 1}, {"x1(1=1)", -1001},
            {"xc(1=1)", -1001}, {"n1", -1002}, {"n1(1=1)", 1}, {"d1(1=1)", 1}, {"k1(1=1)", 1}, {"n1()", -1003},
            {"n1[1=1]", -1002}, {"n1(1=1", -1006}, {"n1(1=1]", -1006}, {"n1(1=1))", -1007}, {"l1(1=1)", -1000},
            {"m1(1=1)", -1000}, {"o1(1=1)", -1000}, {"c1(1=1)", -1000}, {"e1(1=1)", -1000}, {"j1(1=1)", -1000},
            {"w(1=1)", -1000}, {"y(1=1)", -1000}, {"N1(1=1)", -1000}, {"X(1=1)", -1000}, {"(1=1)", -1000}});
    }

    @Edge(promise = 7, says = "a TEST: !TEST, (C), or E, one of < > =, and E")
    static void partsOfATest(Due due) {
        faults(due, new Object[][] {{"x(1)", -1003}, {"x(=1)", -1002}, {"x(1=)", -1004}, {"x(1==1)", -1004}, {"x(1=1=1)", -1005},
            {"x(1<>1)", -1004}, {"x(1!=1)", -1003}, {"x(!)", -1003}, {"x(!1)", -1004}, {"x((1=1))", 1}, {"x((1=1)=1)", -1007},
            {"x((1)=1)", -1004}, {"x(())", -1003}, {"x(1;1)", -1003}, {"x(1?1)", -1003}, {"x(1<1|1>1|1=1)", 1}, {"x(1=1|)", -1006},
            {"x(|1=1)", -1002}, {"x(1=1&&1=1)", -1006}, {"x(1=1&|1=1)", -1006}, {"x(1=1!)", -1005}, {"x((1=1)(1=1))", -1007}});
    }

    @Edge(promise = 7, says = "a FACTOR: [E], a number of one to five digits, or a letter")
    static void partsOfAnE(Due due) {
        faults(due, new Object[][] {{"n-1(1=1)", -1001}, {"n+1(1=1)", -1001}, {"n*1(1=1)", -1001}, {"n1+(1=1)", -1003},
            {"n1+-1(1=1)", -1003}, {"n[](1=1)", -1002}, {"n[1(1=1)", -1003}, {"n1](1=1)", -1002}, {"n[1)(1=1)", -1003},
            {"n[1]2(1=1)", -1004}, {"n1[2](1=1)", -1002}, {"n1c(1=1)", -1002}, {"nc1(1=1)", -1002}, {"ncc(1=1)", -1002},
            {"n(1)(1=1)", -1001}, {"n[[1]](1=1)", 1}, {"n[1](1=1)", 1}, {"n1.5(1=1)", -1002}, {"n1,5(1=1)", -1002}});
        YearFigures x = new YearFigures();
        for (int sign = 0; sign < 256; sign++) {
            boolean isLetter = sign != 0 && "cfastpmyrghq".indexOf(sign) >= 0;
            boolean isDigit = sign >= 48 && sign <= 57;
            int want = isLetter || isDigit ? 1 : sign == '[' ? -1004 : -1001;
            due.is("n and the sign " + sign, Due.law(x, "n" + (char) sign + (sign == '[' ? "1+" : "") + "(1=1)"), want);
        }
    }

    @Edge(promise = 7, says = "1 what can't stand there (the end, too)")
    static void lawThatEndsTooSoon(Due due) {
        YearFigures x = new YearFigures();
        String text = "n[c+12]*a%7-s(!(1=1|t>p&m<y)&[[h]]=q);x(!!r=g)";
        due.is("the whole", Due.law(x, text), 2);
        for (int n = 1; n < text.length(); n++) {
            Due.feed(x, text);
            due.is("the first " + n, x.law(n), n == text.indexOf(';') ? 1 : -1000 - n);
        }
    }

    @Edge(promise = 7, says = "2 a sixth digit, at it")
    static void lawWithASixthDigit(Due due) {
        faults(due, new Object[][] {{"n99999(1=1)", 1}, {"n00000(1=1)", 1}, {"n100000(1=1)", -2006}, {"n000000(1=1)", -2006},
            {"n1234567890123(1=1)", -2006}, {"n12345c(1=1)", -1006}, {"n12345+12345(1=1)", 1}, {"n12345+123456(1=1)", -2012},
            {"x(123456=1)", -2007}, {"x(12345=123456)", -2013}, {"x(1=123456", -2009}, {"n123456", -2006}});
    }

    @Edge(promise = 7, says = "4 a 17th RULE, at its letter (if that can stand there)")
    static void lawWithA17thRule(Due due) {
        String sixteen = "x(c=0);".repeat(16);
        faults(due, new Object[][] {{sixteen + "x(c=0)", -4112}, {sixteen + "n", -4112}, {sixteen + "d?", -4112},
            {sixteen + "k1(1=1)", -4112}, {sixteen + "c(c=0)", -1112}, {sixteen + ";", -1112}, {sixteen + " x", -1112},
            {sixteen, -1112}, {sixteen.substring(0, 111), 16}, {sixteen.substring(0, 111) + "x", -1111}});
    }

    @Edge(promise = 7, says = "5 a seventh of ( [ ! that are open in one another, at it")
    static void lawWithASeventhOpen(Due due) {
        faults(due, new Object[][] {{"x((((((1=1))))))", 1}, {"x(((((((1=1)))))))", -5007}, {"x(!!!!!1=1)", 1},
            {"x(!!!!!!1=1)", -5007}, {"x([[[[[1]]]]]=1)", 1}, {"x([[[[[[1]]]]]]=1)", -5007}, {"x(!(!([1]=1)))", 1},
            {"x(!(!([[1]]=1)))", -5007}, {"x(!(!(!", -1007}, {"x(!(!(!(", -5007}, {"x((((((!", -5007},
            {"x((((((1+(", -1009}, {"x((((((1=!", -1009}, {"x((((((1=(", -1009}, {"x((((((1=[", -5009}, {"x((((((1+[", -5009},
            {"x((((((1=1)(", -1011}, {"x((((((1=1)|((", -5013}, {"x((((((1=1&(", -5011}, {"x(((((1=1)|(1=1)|(1=1)|(1=1)))))", 1}});
    }

    @Edge(promise = 7, says = "the ( of the RULE counts")
    static void bracketOfTheRuleCounts(Due due) {
        faults(due, new Object[][] {{"n1(!(!(!1=1)))", 1}, {"n1(!(!(!!1=1)))", -5008}, {"n1(((((([1]=1))))))", -5008},
            {"n1((((((1=1))))))", 1}, {"n1(((((((1=1)))))))", -5008}});
    }

    @Edge(promise = 7, says = "a ! is open till its TEST ends")
    static void notIsOpenTillItsTestEnds(Due due) {
        faults(due, new Object[][] {{"x(!!!!!1=1&!!!!!1=1|!!!!!1=1)", 1}, {"x(!!!!![1]=1)", -5007}, {"x(!!!!!1=[1])", -5009},
            {"x(!!!!1=[1]&[[[[[1]]]]]=1)", 1}, {"x(!!!!(1=1)&(((((1=1))))))", 1}, {"x(!!!!(1=1&!1=1))", -5011},
            {"x(!(!(!1=1)&!(1=1&1=[1])))", 1}, {"x(!(!(!1=1)&!(1=1&1=[[1]])))", -5021},
            {"x(!(!(!1=1)&!(1=1&!1=1)))", 1}, {"x(!(!(!1=1)&!!(1=1&!1=1)))", -5019}});
    }

    @Edge(promise = 7, says = "the E of a RULE stands ahead of it")
    static void theEOfARuleStandsAheadOfItsBracket(Due due) {
        faults(due, new Object[][] {{"n[[[[[[1]]]]]](1=1)", 1}, {"n[[[[[[[1]]]]]]](1=1)", -5007},
            {"n[[[[[[1]]]]]]((((((1=1))))))", 1}, {"n[[[[[[1]]]]]]+[[[[[[1]]]]]](1=1)", 1},
            {"n[[[[[[1]]]]]]+[[[[[[[1]]]]]]](1=1)", -5021}, {"n1([[[[[[1]]]]]]=1)", -5008}});
    }

    @Edge(promise = 7, says = "FAULTS, the first from the left")
    static void firstFaultOfALawFromTheLeft(Due due) {
        String sixteen = "x(c=0);".repeat(16);
        faults(due, new Object[][] {{"n123456(z", -2006}, {"nz123456(", -1001}, {"x(((((((z123456", -5007}, {"x((((((123456(", -2012},
            {"x((((((z(", -1007}, {"x(1=1);z(((((((", -1007}, {"x((((((([", -5007}, {sixteen + "n123456", -4112},
            {"x(!!!!!!123456=1)", -5007}, {sixteen.replace("x(c=0);", "x(c=1);") + "x(((((((", -4112}});
    }

    // ---- 8

    @Edge(promise = 8, says = "A REPORT by the first n bytes of the tape (1 to 120; empty then): how many LINES")
    static void reportOf1To120Bytes(Due due) {
        YearFigures x = Due.office(1, 1);
        Due.feed(x, longReport() + ";a0+1");
        due.is("longest", longReport().length(), 120);
        for (int n : Due.outside(1, 120)) {
            due.is("report(" + n + ")", x.report(n), -1);
        }
        due.is("the tape stays", x.count(8), 140);
        due.is("report(120)", x.report(120), 18);
        due.is("the tape is empty then", x.count(8), 0);
        due.is("COUNT", x.counted(0, 0), 18);
        Due.feed(x, "a");
        due.is("report(1)", x.report(1), -1001);
        due.is("empty behind a FAULT, too", x.count(8), 0);
        Due.feed(x, "a0+1;a0+1;a0+1");
        due.is("the first 9", x.report(9), 2);
        due.is("the others are gone", x.count(8), 0);
    }

    @Edge(promise = 8, says = "a FAULT; NONE: as above.")
    static void reportOfMoreThanTheTapeHas(Due due) {
        YearFigures x = Due.office(1, 1);
        due.is("of an empty tape", x.report(1), -1);
        Due.feed(x, "a0+1;a0+1;a0+1;a0+99");
        due.is("one more than it has", x.report(21), -1);
        due.is("it stays", x.count(8), 20);
        due.is("all that it has", x.report(20), 4);
        due.is("a FAULT at the last byte of all", Due.report(x, longReport().substring(0, 119) + "?"), -1119);
        due.is("a FAULT at the end of all", Due.report(x, longReport().substring(0, 119) + ";"), -1120);
        due.is("COUNT", x.counted(0, 0), 102);
    }

    @Edge(promise = 8, says = "A REPORT: a TEXT of at most 120 bytes, no blanks")
    static void reportWithBlanks(Due due) {
        YearFigures x = Due.office(2, 2);
        String text = "a0+12;b1-123";
        due.is("without a blank", Due.report(x, text), 2);
        for (int at = 0; at <= text.length(); at++) {
            String changed = text.substring(0, at) + " " + text.substring(at);
            due.is("report of " + changed, Due.report(x, changed), -1000 - at);
        }
    }

    @Edge(promise = 8, says = "LINES with a ; (59) between two (20 at most)")
    static void linesWithASemicolonBetweenTwo(Due due) {
        reportFaults(due, new Object[][] {{";", -1000}, {";a0+1", -1000}, {"a0+1;", -1005}, {"a0+1;;a0+1", -1005},
            {"a0+1a0+1", -1004}, {"a0+1:a0+1", -1004}, {"a0+1<a0+1", -1004}, {"a0+1;a0+1", 2}, {"a0+;1", -1003}});
        YearFigures x = Due.office(1, 1);
        for (int lines = 1; lines <= 20; lines++) {
            String text = "a0+1;".repeat(lines);
            due.is(lines + " LINES", Due.report(x, text.substring(0, text.length() - 1)), lines);
        }
        due.is("all of them", x.counted(0, 0), 210);
    }

    @Edge(promise = 8, says = "a letter a to f, a digit 0 to 5 (a figure), + or -, a number of one to three digits")
    static void signsOfALine(Due due) {
        String right = "a0+1";
        for (int at = 0; at < 5; at++) {
            for (int sign = 0; sign < 256; sign++) {
                String text = right.substring(0, at) + (char) sign + (at < 4 ? right.substring(at + 1) : "");
                boolean isDigit = sign >= 48 && sign <= 57;
                boolean isFine = at == 0 ? sign >= 97 && sign <= 102 : at == 1 ? sign >= 48 && sign <= 53
                    : at == 2 ? sign == 43 || sign == 45 : isDigit;
                int want = isFine ? 1 : at == 4 && sign == ';' ? -1005 : -1000 - at;
                due.is("the sign " + sign + " at " + at, Due.report(Due.office(6, 6), text), want);
            }
        }
    }

    @Edge(promise = 8, says = "so many more or less are COUNTED (0 to 9999 it stays)")
    static void countsStayFrom0To9999(Due due) {
        YearFigures x = Due.office(1, 1);
        due.is("less than 0", Due.report(x, "a0-1"), 1);
        due.is("0 it stays", x.counted(0, 0), 0);
        Due.report(x, "a0+5");
        due.is("just to 0", Due.report(x, "a0-5"), 1);
        due.is("0", x.counted(0, 0), 0);
        Due.report(x, "a0+5;a0-6");
        due.is("one below 0", x.counted(0, 0), 0);
        Due.report(x, "a0+999;".repeat(10).substring(0, 69));
        due.is("9990", x.counted(0, 0), 9990);
        Due.report(x, "a0+9");
        due.is("just to 9999", x.counted(0, 0), 9999);
        due.is("more than 9999", Due.report(x, "a0+1"), 1);
        due.is("9999 it stays", x.counted(0, 0), 9999);
        Due.report(x, "a0+999");
        due.is("9999 it stays still", x.counted(0, 0), 9999);
        due.is("the figure in all", x.figureIs(0, 1), 9999);
        Due.report(x, "a0+000;a0-0");
        due.is("0 more and less", x.counted(0, 0), 9999);
    }

    @Edge(promise = 8, says = "LINES one behind the other")
    static void linesOneBehindTheOther(Due due) {
        YearFigures x = Due.office(1, 1);
        Due.report(x, "a0-7;a0+3;a0-1");
        due.is("held at 0 by the first", x.counted(0, 0), 2);
        Due.report(x, "a0+999;".repeat(11) + "a0-9");
        due.is("held at 9999 ahead of the last", x.counted(0, 0), 9990);
    }

    @Edge(promise = 8, says = "1 what can't stand there (the end, too)")
    static void reportThatEndsTooSoon(Due due) {
        YearFigures x = Due.office(6, 6);
        String text = "a0+1;f5-23;c3+456";
        int[] want = {-1001, -1002, -1003, 1, -1005, -1006, -1007, -1008, 2, 2, -1011, -1012, -1013, -1014, 3, 3, 3};
        for (int n = 1; n <= text.length(); n++) {
            Due.feed(x, text);
            due.is("the first " + n, x.report(n), want[n - 1]);
        }
    }

    @Edge(promise = 8, says = "2 a fourth digit, at it")
    static void reportWithAFourthDigit(Due due) {
        reportFaults(due, new Object[][] {{"a0+999", 1}, {"a0+000", 1}, {"a0+1000", -2006}, {"a0-0000", -2006},
            {"a0+123456", -2006}, {"a0+123a", -1006}, {"a0+1;b1-1234", -2011}, {"a0+1;b1-1234;z", -2011}});
    }

    @Edge(promise = 8, says = "4 a 21st LINE, at its letter (if that can stand there)")
    static void reportWithA21stLine(Due due) {
        String twenty = "a0+1;".repeat(20);
        reportFaults(due, new Object[][] {{twenty.substring(0, 99), 20}, {twenty + "a0+1", -4100}, {twenty + "b", -4100},
            {twenty + "a?", -4100}, {twenty + "g0+1", -1100}, {twenty + "`0+1", -1100}, {twenty + ";", -1100}, {twenty, -1100},
            {twenty + "5", -1100}, {"a0+1;".repeat(19) + "z", -1095}});
    }

    @Edge(promise = 8, says = "7 a county, a figure that is not told, at it (behind 4)")
    static void reportOfOnesThatAreNotTold(Due due) {
        String twenty = "a0+1;".repeat(20);
        reportFaults(due, new Object[][] {{"b1+1", 1}, {"c1+1", -7000}, {"f", -7000}, {"g", -1000}, {"b2+1", -7001}, {"b5", -7001},
            {"b6", -1001}, {"c9+1", -7000}, {"c5", -7000}, {"a0+1;c1+1", -7005}, {"a0+1;b2+1", -7006}, {"a2+1234", -7001},
            {twenty + "c0+1", -4100}, {twenty + "f", -4100}, {"a0+1;".repeat(19) + "c0+1", -7095},
            {"a0+1;".repeat(19) + "a2+1", -7096}});
        YearFigures none = new YearFigures();
        due.is("no county at all", Due.report(none, "a0+1"), -7000);
        none.county(0, 0);
        due.is("no figure at all", Due.report(none, "a0+1"), -7001);
        none.figure(0, 0);
        due.is("both", Due.report(none, "a0+1"), 1);
    }

    @Edge(promise = 8, says = "FAULTS, the first from the left")
    static void firstFaultOfAReportFromTheLeft(Due due) {
        reportFaults(due, new Object[][] {{"c0+1234", -7000}, {"a0+1234;c0+1", -2006}, {"a0*1;c0+1", -1002}, {"a2*1", -7001},
            {"c0*1;a0+1234", -7000}, {"a0+1;".repeat(20) + "c0+1234", -4100}, {"a0+1;a0+1234;" + "a0+1;".repeat(19), -2011}});
    }

    @Edge(promise = 8, says = "Nothing is COUNTED of a REPORT with a FAULT.")
    static void nothingIsCountedOfAFault(Due due) {
        YearFigures x = Due.office(2, 2);
        Due.report(x, "a0+10;b1+10");
        String[] texts = {"a0+5;b1+5;", "a0+5;b1-5;a0+1234", "a0+1;".repeat(20) + "b1+1", "a0+5;b1+5;c0+1", "a0-9;b1+5;a2+1", "a0+5 "};
        for (String text : texts) {
            due.is("a FAULT of " + text, Due.report(x, text) < 0, true);
            due.is("a0", x.counted(0, 0), 10);
            due.is("b1", x.counted(1, 1), 10);
        }
    }

    // ---- 34

    private static YearFigures counts(String report) {
        YearFigures x = Due.office(6, 1);
        Due.report(x, report);
        return x;
    }

    @Edge(promise = 34, says = "CHECK of a told figure by the first n bytes of the tape (0 to 6; empty then")
    static void checkOf0To6Bytes(Due due) {
        YearFigures x = counts("a0+1;b0+2;c0+3;d0+4;e0+5;f0+6");
        due.is("0 bytes of an empty tape", x.check(0, 0), -1);
        for (int n = 0; n <= 6; n++) {
            x.feed(0x01020304, 0x05060000, 0, 0, 0);
            due.is("check(0, " + n + ")", x.check(0, n), -1);
            due.is("empty then", x.count(8), 0);
        }
        x.feed(0x01020304, 0x05070000, 0, 0, 0);
        due.is("the sixth is asked", x.check(0, 6), 5);
        due.is("empty then, too", x.count(8), 0);
        x.feed(0x01020304, 0x05070000, 0, 0, 0);
        due.is("the sixth is not asked", x.check(0, 5), -1);
        x.feed(0x02020304, 0, 0, 0, 0);
        due.is("none is asked", x.check(0, 0), -1);
        due.is("empty behind 0 bytes, too", x.count(8), 0);
        x.feed(0x01020304, 0x05060000, 0, 0, 0);
        for (int n : Due.outside(0, 6)) {
            due.is("check(0, " + n + ")", x.check(0, n), -2);
        }
        due.is("the tape stays", x.count(8), 20);
    }

    @Edge(promise = 34, says = "of counties that are not told 0)")
    static void checkOfCountiesThatAreNotTold(Due due) {
        YearFigures x = Due.office(0, 1);
        x.feed(0, 0, 0, 0, 0);
        due.is("none is told, all bytes 0", x.check(0, 6), -1);
        for (int c = 0; c < 6; c++) {
            x.feed(c < 4 ? 1 << 24 - 8 * c : 0, c < 4 ? 0 : 1 << 24 - 8 * (c - 4), 0, 0, 0);
            due.is("a byte that is not 0 at " + c, x.check(0, 6), c);
        }
    }

    @Edge(promise = 34, says = "CHECK: COUNTS of a figure by counties through 256 (what is left)")
    static void checkThrough256(Due due) {
        YearFigures x = counts("a0+255;b0+256;c0+257;d0+511;e0+512;f0+513");
        x.feed(0xff0001ff, 0x00010000, 0, 0, 0);
        due.is("what is left of 255, 256, 257, 511, 512, 513", x.check(0, 6), -1);
        Due.report(x, "f0+999;".repeat(10).substring(0, 69));
        x.feed(0xff0001ff, 0x000f0000, 0, 0, 0);
        due.is("of 9999", x.check(0, 6), -1);
    }

    @Edge(promise = 34, says = "right, or the first county that is not so.")
    static void checkFindsTheFirst(Due due) {
        YearFigures x = counts("a0+1;b0+2;c0+3;d0+4;e0+5;f0+6");
        x.feed(0x00000000, 0x00000000, 0, 0, 0);
        due.is("all are wrong", x.check(0, 6), 0);
        x.feed(0x01020300, 0x05000000, 0, 0, 0);
        due.is("two are wrong", x.check(0, 6), 3);
        x.feed(0x01020304, 0x05000000, 0, 0, 0);
        due.is("the last is wrong", x.check(0, 6), 5);
    }

    @Edge(promise = 34, says = "NONE: right; else the first county that is not so")
    static void checkIsRightOrNot(Due due) {
        YearFigures x = Due.office(6, 6);
        x.feed(0, 0, 0, 0, 0);
        due.is("right", x.check(5, 6), -1);
        x.feed(1, 0, 0, 0, 0);
        due.is("county d is not so", x.check(5, 6), 3);
        x.feed(0xff000000, 0, 0, 0, 0);
        due.is("county a is not so", x.check(0, 1), 0);
    }

    @Edge(promise = 34, says = "-2: no such ones, it has not so many (the tape stays).")
    static void checkOfNoSuchOnes(Due due) {
        YearFigures x = Due.office(6, 5);
        due.is("an empty tape", x.check(0, 1), -2);
        x.feed(0, 0, 0, 0, 0);
        due.is("a figure that is not told", x.check(5, 6), -2);
        due.is("it, with 0 bytes", x.check(5, 0), -2);
        for (int f : Due.outside(0, 5)) {
            due.is("check(" + f + ", 1)", x.check(f, 1), -2);
        }
        due.is("the tape stays", x.count(8), 20);
        due.is("the last told figure", x.check(4, 6), -1);
    }
}
