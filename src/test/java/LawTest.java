/** What laws mean (promises 7, 9, 21): letters, the order of reckoning, 32 bits, what is refused, bounds. */
public final class LawTest {
    private static final Due DUE = new Due("LawTest");

    public static void main(String[] args) {
        expressions();
        conditions();
        refused();
        bounds();
        letters();
        lettersWithinAMonth();
        definitions();
        DUE.end();
    }

    /** What an E is, by how many happen: 0 to 99. */
    private static void value(String e, int due) {
        YearFigures x = Due.office(1, 1);
        DUE.is("law n" + e, Due.law(x, "n" + e + "(1=1)"), 1);
        DUE.is(e, x.tried(1, 0), due);
    }

    private static void truth(String c, boolean due) {
        YearFigures x = Due.office(1, 1);
        DUE.is("law " + c, Due.law(x, "n1(" + c + ")"), 1);
        DUE.is(c, x.tried(1, 0), due ? 1 : 0);
        x.record(0, 0, 0, 0, 0);
        DUE.is("definition " + c, Due.definition(x, 0, "(" + c + ")"), due ? 1 : 0);
    }

    private static void expressions() {
        value("2+3*4", 14);
        value("[2+3]*4", 20);
        value("20-5-4", 11);
        value("20-[5-4]", 19);
        value("40/5/4", 2);
        value("40/5*4", 32);
        value("7*9%5", 3);
        value("7%5*9", 18);
        value("0-7/2+10", 7);
        value("0-7%4+10", 7);
        value("[0-7]/2+10", 7);
        value("[0-7]%4+10", 7);
        value("00012", 12);
        value("99999*99999%100", 9);
        value("99999*99999/99999%100", 98);
        value("[0-32768*65536]/[0-1]/[0-65536]%100", 68);
        value("[0-32768*65536]%[0-1]+5", 5);
    }

    private static void conditions() {
        truth("1=1", true);
        truth("1=2", false);
        truth("1<2", true);
        truth("2<2", false);
        truth("2>1", true);
        truth("2>2", false);
        truth("!1=1", false);
        truth("!!1=1", true);
        truth("!1=2&1=1", true);
        truth("!1=1|1=1", true);
        truth("!(1=1|1=1)", false);
        truth("1=1|1=2&1=2", true);
        truth("(1=1|1=2)&1=2", false);
        truth("1=2&1=1|1=1", true);
        truth("1=2&1=1|1=2", false);
        truth("1=1&1=1&1=2", false);
        truth("1=2|1=2|1=1", true);
        truth("1=1&(1=2|1=1)&!1=2", true);
        truth("1+1=2*1", true);
        truth("99999*99999<0", false);
        truth("65536*32768<0", true);
        truth("65536*65536=0", true);
    }

    private static void refused() {
        value("5/0", 0);
        value("5%0", 0);
        value("7+5/0", 0);
        value("[1/0]+5", 0);
        value("5/[3-3]+9", 0);
        value("0/5+3", 3);
        truth("1/0=0", false);
        truth("!1/0=0", false);
        truth("!(1%0=1)", false);
        truth("1/0=0|1=1", false);
        truth("(1/0=0)|1=1", false);
        truth("1=1|1/0=0", true);
        truth("1=2&1/0=0|1=1", true);
        truth("1=1&1/0=0|1=1", false);
        truth("!(1=1|1/0=0)|2=2", true);
        YearFigures x = Due.office(1, 1);
        Due.law(x, "n5(1/0=1);n3(1=1)");
        DUE.is("a rule whose C is refused is passed over", x.tried(1, 0), 3);
        Due.law(x, "n5/0(1=1);n3(1=1)");
        DUE.is("a rule whose E is refused is 0", x.tried(1, 0), 0);
        Due.law(x, "n5(1=1);x(1/0=0)");
        DUE.is("x that is refused does not hold", x.tried(1, 10), 5);
    }

    private static void bounds() {
        value("100", 99);
        value("99", 99);
        value("0-1", 0);
        value("99999*30000", 0);
        YearFigures x = Due.office(1, 1);
        Due.law(x, "d11(1=1)");
        DUE.is("d is 10 at most, always one more", x.tried(12, 0), 12);
        Due.law(x, "d0-1(1=1)");
        DUE.is("d is 0 at least, never one more", x.tried(12, 0), 0);
        Due.law(x, "k100(1=1)");
        DUE.is("k is 99 at most", x.figureIs(0, 3), 9900);
        Due.law(x, "k0-1(1=1)");
        DUE.is("k is 0 at least", x.figureIs(0, 3), 0);
        Due.law(x, "n5(c=1);n6(c=0);n7(1=1)");
        DUE.is("the first rule that holds", x.tried(1, 0), 6);
        Due.law(x, "n5(c=1)");
        DUE.is("no rule that holds", x.tried(1, 0), 0);
        Due.law(x, "n5(1=1);x(c=1);x(f=0);x(c=2)");
        DUE.is("any x will do", x.tried(1, 10), 0);
        DUE.is("what is not COUNTED happens", x.tried(1, 0), 5);
    }

    private static void letters() {
        YearFigures x = new YearFigures();
        x.county(2, 41);
        x.county(4, 17);
        x.figure(1, 77);
        x.figure(3, 66);
        Due.report(x, "c3+12;e3+5");
        String[] asked = {"c", "f", "a", "s", "t", "p", "m", "y", "r", "g", "h", "q"};
        int[] due = {2, 3, 12, 17, 66, 41, 0, 0, 0, 0, 0, 0};
        for (int i = 0; i < asked.length; i++) {
            Due.law(x, "n" + asked[i] + "(c=2&f=3)");
            DUE.is("letter " + asked[i], x.tried(1, 0), due[i]);
        }
        x.months(14);
        Due.law(x, "n10*m+y(c=2&f=3)");
        DUE.is("m and y", x.tried(1, 0), 21);
    }

    private static void lettersWithinAMonth() {
        // s and a change within a month, county by county, and in it figure by figure
        YearFigures x = Due.office(2, 2);
        Due.law(x, "n1+s(1=1)");
        DUE.is("months(1)", x.months(1), 1 + 1 + 2 + 2);
        DUE.is("a0", x.counted(0, 0), 1);
        DUE.is("b0", x.counted(1, 0), 2);
        DUE.is("b1", x.counted(1, 1), 2);
        Due.law(x, "n3(1=1);x(s>3)");
        DUE.is("months(1)", x.months(1), 12);
        // x is asked ahead of what happens: with 3 it is counted, with 6 not
        DUE.is("a0", x.counted(0, 0), 4);
        DUE.is("b0", x.counted(1, 0), 2);
    }

    private static void definitions() {
        YearFigures x = Due.office(6, 6);
        x.months(13);
        Due.report(x, "d0+5;d1+5;d3+5");
        x.record(7, 3, 45, 13, 8);
        String[] asked = {"c", "f", "a", "s", "t", "p", "m", "y", "r", "g", "h", "q"};
        int[] due = {3, 0, 0, 0, 0, 0, 0, 0, 7, 45, 13, 8};
        for (int i = 0; i < asked.length; i++) {
            DUE.is("letter " + asked[i], Due.definition(x, 0, "(" + asked[i] + "=" + due[i] + ")"), 1);
        }
    }
}
