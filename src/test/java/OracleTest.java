import java.util.Random;

/** All promises: runs of drawn calls on a YearFigures and on an Oracle, which must answer alike. */
public final class OracleTest {
    private final Due due;
    private final Random random;
    private final Texts texts;
    private final YearFigures x = new YearFigures();
    private final Oracle o = new Oracle();
    private final String run;
    private int calls = 0;

    private OracleTest(Due due, int run) {
        this.due = due;
        this.run = "run " + run + ", call ";
        this.random = new Random(run);
        this.texts = new Texts(random);
    }

    public static void main(String[] args) {
        int runs = args.length > 0 ? Integer.parseInt(args[0]) : 400;
        int first = args.length > 1 ? Integer.parseInt(args[1]) : 0;
        Due due = new Due("OracleTest");
        for (int run = first; run < first + runs; run++) {
            new OracleTest(due, run).goThrough();
        }
        due.end();
    }

    private int to(int most) {
        return random.nextInt(most + 1);
    }

    private boolean in(int n) {
        return random.nextInt(n) == 0;
    }

    /** Mostly 0 to most, at times a little beyond, seldom anything. */
    private int about(int most) {
        if (in(40)) {
            return in(2) ? random.nextInt() : in(2) ? Integer.MIN_VALUE : Integer.MAX_VALUE;
        }
        return in(15) ? to(most + 3) - 1 : to(most);
    }

    private void is(String call, long got, long want) {
        due.is(run + calls + ": " + call, got, want);
        calls++;
    }

    private void is(String call, boolean got, boolean want) {
        is(call, got ? 1 : 0, want ? 1 : 0);
    }

    private void goThrough() {
        int counties = in(20) ? 0 : 1 + to(5);
        int figures = in(20) ? 0 : 1 + to(3);
        int scale = in(3) ? 9999 : in(2) ? 100 : 12;
        for (int c = 0; c < counties; c++) {
            county(c, to(scale));
        }
        for (int f = 0; f < figures; f++) {
            figure(f, to(in(5) ? 9999 : 300));
        }
        boolean isDense = in(2);
        while (calls < 500) {
            if (isDense && in(40)) {
                fillCounts(counties, figures);
                fillRecords();
            }
            switch (random.nextInt(10)) {
                case 0:
                    tellSomething(scale);
                    break;
                case 1:
                    readText();
                    break;
                case 2:
                    letGo();
                    break;
                case 3:
                    tellRecord();
                    break;
                default:
                    ask(to(19));
            }
        }
    }

    private void fillCounts(int counties, int figures) {
        int most = in(2) ? 999 : 40;
        for (int c = 0; c < counties; c++) {
            String text = "";
            for (int f = 0; f < figures; f++) {
                text += (f > 0 ? ";" : "") + (char) ('a' + c) + f + (in(8) ? "-" : "+") + to(most);
            }
            feed(text);
            is("report of " + text, x.report(text.length()), o.report(text.length()));
        }
        for (int i = 0; i < 4; i++) {
            table();
            ask(7);
        }
    }

    /** Of few ages and hours that lie side by side, so that there are twos. */
    private void fillRecords() {
        int hours = 1 + to(5);
        int hour = to(23);
        int ages = to(2);
        for (int r = 0; r < 20; r++) {
            if (in(2)) {
                record(r, 0, 20 + to(ages), (hour + to(hours)) % 24, to(1));
            }
        }
        for (int i = 0; i < 4; i++) {
            ask(10 + i % 3);
            ask(15);
        }
    }

    private void county(int c, int p) {
        is("county(" + c + ", " + p + ")", x.county(c, p), o.county(c, p));
    }

    private void figure(int f, int t) {
        is("figure(" + f + ", " + t + ")", x.figure(f, t), o.figure(f, t));
    }

    private void tellSomething(int scale) {
        switch (random.nextInt(8)) {
            case 0:
                county(about(in(5) ? 5 : 2), about(in(5) ? 9999 : scale));
                break;
            case 1:
                int f = about(in(5) ? 5 : 2);
                int sum = o.figureIs(f, 1);
                figure(f, in(2) && sum >= 0 && sum < 9000 ? sum + to(40) - 4 : about(in(5) ? 9999 : 300));
                break;
            case 2:
                int days = about(in(5) ? 9999 : 500);
                is("staff(" + days + ")", x.staff(days), o.staff(days));
                break;
            case 3:
                int seed = about(65535);
                is("seed(" + seed + ")", x.seed(seed), o.seed(seed));
                break;
            case 4:
                is("keep()", x.keep(), o.keep());
                break;
            case 5:
                is("undo()", x.undo(), o.undo());
                break;
            default:
                int c = about(5);
                int b = about(5);
                boolean is = !in(4);
                is("next(" + c + ", " + b + ", " + is + ")", x.next(c, b, is), o.next(c, b, is));
        }
    }

    private void feed(String text) {
        for (int at = 0; at < text.length(); at += 20) {
            int[] f = new int[5];
            for (int i = 0; i < 20; i++) {
                int sign = at + i < text.length() ? text.charAt(at + i) : random.nextInt(256);
                f[i / 4] = f[i / 4] << 8 | sign & 255;
            }
            String call = "feed(" + f[0] + ", " + f[1] + ", " + f[2] + ", " + f[3] + ", " + f[4] + ") of " + text;
            is(call, x.feed(f[0], f[1], f[2], f[3], f[4]), o.feed(f[0], f[1], f[2], f[3], f[4]));
        }
    }

    private void readText() {
        int what = random.nextInt(4);
        int most = what == 0 ? 240 : what == 1 ? 120 : what == 2 ? 80 : 6;
        String text = what == 0 ? texts.law(most) : what == 1 ? texts.report(most) : what == 2 ? texts.definition(most) : counts();
        if (what < 3 && in(3)) {
            text = texts.spoilt(text, most + 1);
        }
        feed(text);
        int n = in(25) ? about(most) : text.length();
        int d = in(25) ? about(5) : to(3);
        String call = "(" + d + ", " + n + ") of " + text;
        switch (what) {
            case 0:
                is("law" + call, x.law(n), o.law(n));
                break;
            case 1:
                is("report" + call, x.report(n), o.report(n));
                break;
            case 2:
                is("definition" + call, x.definition(d, n), o.definition(d, n));
                break;
            default:
                is("check" + call, x.check(d, n), o.check(d, n));
        }
        if (o.count(8) > 0 && in(2)) {
            is("law(1)", x.law(1), o.law(1));
        }
    }

    private String counts() {
        StringBuilder text = new StringBuilder();
        int f = to(2);
        for (int c = 0; c < 6; c++) {
            int count = Math.max(0, o.counted(c, f));
            text.append((char) (in(20) ? to(255) : count % 256));
        }
        return text.toString();
    }

    private void letGo() {
        int n = in(10) ? about(60) : 1 + to(in(3) ? 30 : 5);
        if (in(2)) {
            is("months(" + n + ")", x.months(n), o.months(n));
        } else {
            int what = in(2) ? about(3) : 10 + about(5);
            is("tried(" + n + ", " + what + ")", x.tried(n, what), o.tried(n, what));
        }
    }

    private void tellRecord() {
        int r = about(19);
        int county = about(in(4) ? 5 : 1);
        int age = about(in(2) ? 99 : 2);
        int hour = in(2) ? about(23) : in(2) ? to(3) : 20 + to(3);
        int kind = about(in(4) ? 9 : 1);
        record(r, county, age, hour, kind);
    }

    private void record(int r, int county, int age, int hour, int kind) {
        String call = "record(" + r + ", " + county + ", " + age + ", " + hour + ", " + kind + ")";
        is(call, x.record(r, county, age, hour, kind), o.record(r, county, age, hour, kind));
    }

    private void ask(int which) {
        int i = about(5);
        int f = about(in(3) ? 5 : 2);
        int way = about(3);
        int many = in(2) ? about(999) : about(60);
        switch (which) {
            case 0:
                is("counted(" + i + ", " + f + ")", x.counted(i, f), o.counted(i, f));
                break;
            case 1:
                int what = in(2) ? about(3) : 10 + about(11);
                is("figureIs(" + f + ", " + what + ")", x.figureIs(f, what), o.figureIs(f, what));
                break;
            case 2:
                is("share(" + i + ", " + many + ", " + way + ")", x.share(i, many, way), o.share(i, many, way));
                break;
            case 3:
                int w = about(1);
                is("loses(" + way + ", " + w + ")", x.loses(way, w), o.loses(way, w));
                break;
            case 4:
                is("breaks(" + many + ", " + way + ")", x.breaks(many, way), o.breaks(many, way));
                break;
            case 5:
                int of = in(2) ? 100 : about(5);
                is("regions(" + of + ")", x.regions(of), o.regions(of));
                break;
            case 6:
                table();
                break;
            case 7:
                int b = about(2);
                is("bled(" + f + ", " + b + ")", x.bled(f, b), o.bled(f, b));
                break;
            case 8:
                int c = about(2);
                is("canComeOut(" + c + ")", x.canComeOut(c), o.canComeOut(c));
                break;
            default:
                askMore(which, f);
        }
    }

    private void table() {
        int counties = about(in(2) ? 63 : 15);
        int figures = about(in(3) ? 63 : 7);
        if (in(3)) {
            counties = (1 << 1 + to(3)) - 1;
            figures = (1 << 1 + to(2)) - 1;
        }
        int base = in(10) ? about(51) : 2 + to(48);
        int what = about(1);
        String call = "table(" + counties + ", " + figures + ", " + base + ", " + what + ")";
        is(call, x.table(counties, figures, base, what), o.table(counties, figures, base, what));
    }

    private void askMore(int which, int f) {
        int kind = about(in(3) ? 9 : 1);
        int two = about(1);
        int many = 1 + about(in(2) ? 19 : 6);
        switch (which) {
            case 9:
                is("fallsUnder(" + f + ")", x.fallsUnder(f), o.fallsUnder(f));
                break;
            case 10:
                int n = about(in(3) ? 20 : 8);
                is("joined(" + n + ", " + two + ")", x.joined(n, two), o.joined(n, two));
                break;
            case 11:
                is("window(" + kind + ", " + many + ", " + two + ")", x.window(kind, many, two), o.window(kind, many, two));
                break;
            case 12:
                is("middle(" + kind + ", " + two + ")", x.middle(kind, two), o.middle(kind, two));
                break;
            case 13:
                int back = about(in(2) ? 7 : 2);
                is("published(" + f + ", " + back + ")", x.published(f, back), o.published(f, back));
                break;
            case 14:
                is("inARow(" + f + ")", x.inARow(f), o.inARow(f));
                break;
            case 15:
                is("halves(" + two + ")", x.halves(two), o.halves(two));
                break;
            case 16:
                int month = in(2) ? 100 : about(11);
                is("rising(" + f + ", " + month + ")", x.rising(f, month), o.rising(f, month));
                break;
            case 17:
                int births = 1 + about(11);
                int days = 1 + about(59);
                int gap = 1 + about(in(2) ? 19 : 4);
                is("spaced(" + births + ", " + days + ", " + gap + ")", x.spaced(births, days, gap), o.spaced(births, days, gap));
                break;
            default:
                int what = in(3) ? 20 + about(15) : about(13);
                is("count(" + what + ")", x.count(what), o.count(what));
        }
    }
}
