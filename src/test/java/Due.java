/** What a test asks, what was due, and how many answers were not as due. */
final class Due {
    private final String test;
    private int asked = 0;
    private int wrong = 0;

    Due(String test) {
        this.test = test;
    }

    void is(String call, long got, long want) {
        asked++;
        if (got != want) {
            wrong++;
            if (wrong <= 40) {
                System.out.println(test + ": " + call + " answered " + got + ", due is " + want);
            }
        }
    }

    void is(String call, boolean got, boolean want) {
        is(call, got ? 1 : 0, want ? 1 : 0);
    }

    int asked() {
        return asked;
    }

    int wrong() {
        return wrong;
    }

    /** Numbers just beyond two bounds and far beyond them, those among them that fewer bits would take for one between. */
    static int[] outside(int least, int most) {
        int[] all = {least - 1, most + 1, least - 2, most + 2, least + 32, least + 64, least - 32, least + 256, least - 256,
            least + 65536, least - 65536, most + 65536, Integer.MIN_VALUE, Integer.MIN_VALUE + 10, Integer.MAX_VALUE};
        return java.util.Arrays.stream(all).filter(n -> n < least || n > most).toArray();
    }

    /** Feeds a text, filled up with zeros to whole feeds; how many bytes it has. */
    static int feed(YearFigures x, String text) {
        for (int at = 0; at < text.length(); at += 20) {
            x.feed(four(text, at), four(text, at + 4), four(text, at + 8), four(text, at + 12), four(text, at + 16));
        }
        return text.length();
    }

    static int law(YearFigures x, String text) {
        return x.law(feed(x, text));
    }

    static int report(YearFigures x, String text) {
        return x.report(feed(x, text));
    }

    static int definition(YearFigures x, int d, String text) {
        return x.definition(d, feed(x, text));
    }

    /** Tells as many counties of 10 people and figures with target 100. */
    static YearFigures office(int counties, int figures) {
        YearFigures x = new YearFigures();
        for (int c = 0; c < counties; c++) {
            x.county(c, 10);
        }
        for (int f = 0; f < figures; f++) {
            x.figure(f, 100);
        }
        return x;
    }

    static YearFigures under(int counties, int figures, String law) {
        YearFigures x = office(counties, figures);
        law(x, law);
        return x;
    }

    /** Brings the COUNT of a county and a figure to its most, 9999. */
    static void fill(YearFigures x, int county, int figure) {
        report(x, ("" + (char) ('a' + county) + figure + "+999;").repeat(11).substring(0, 76));
    }

    void end() {
        System.out.println(test + ": " + asked + " answers asked, " + wrong + " not as due");
        if (wrong != 0) {
            System.exit(1);
        }
    }

    private static int four(String text, int at) {
        int four = 0;
        for (int i = at; i < at + 4; i++) {
            four = four << 8 | (i < text.length() ? text.charAt(i) & 255 : 0);
        }
        return four;
    }
}
