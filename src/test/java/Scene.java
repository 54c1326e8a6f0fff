import java.util.ArrayList;
import java.util.List;

/** An object in which there is something of everything, and all that can be asked of one without changing it. */
final class Scene {
    private Scene() {
    }

    /** In THE YEAR 1, MONTH 3; KEPT in MONTH 2; on the tape a report of 4 bytes and a feed more. */
    static YearFigures full() {
        YearFigures x = new YearFigures();
        x.county(0, 60);
        x.county(1, 30);
        x.county(2, 10);
        x.county(4, 0);
        x.next(0, 1, true);
        x.next(1, 4, true);
        x.figure(0, 40);
        x.figure(1, 9999);
        x.figure(3, 0);
        x.staff(50);
        Due.law(x, "n2+c(f=0&m<2);n1(f>0);d5(f=1);k3(1=1);x(c=4&f=1)");
        x.months(14);
        Due.report(x, "a0+13;b0+7;c1+255;e3+9");
        for (int r = 0; r < 5; r++) {
            x.record(3 * r, r % 2, 30 + r / 2, 5 + r % 3, 1);
        }
        Due.definition(x, 0, "(c=1&h=6|h=5)");
        Due.definition(x, 2, "(g>30&q=1)");
        x.keep();
        x.months(1);
        Due.feed(x, "a0+5" + " ".repeat(36));
        return x;
    }

    static List<String> picture(YearFigures x) {
        List<String> all = new ArrayList<>();
        for (int what = 0; what <= 12; what++) {
            all.add("count(" + what + ") " + x.count(what));
        }
        for (int i = 0; i < 6; i++) {
            all.add("count(20 + " + i + ") " + x.count(20 + i));
            all.add("count(30 + " + i + ") " + x.count(30 + i));
            all.add("fallsUnder(" + i + ") " + x.fallsUnder(i));
            all.add("inARow(" + i + ") " + x.inARow(i));
            all.add("figureIs(" + i + ", 0) " + x.figureIs(i, 0));
            all.add("figureIs(" + i + ", 10) " + x.figureIs(i, 10));
            all.add("figureIs(" + i + ", 12) " + x.figureIs(i, 12));
            all.add("published(" + i + ", 0) " + x.published(i, 0));
            for (int c = 0; c < 6; c++) {
                all.add("counted(" + c + ", " + i + ") " + x.counted(c, i));
            }
        }
        for (int what = 0; what <= 3; what++) {
            all.add("tried(13, " + what + ") " + x.tried(13, what));
        }
        for (int kind = 0; kind <= 2; kind++) {
            all.add("middle(" + kind + ", 0) " + x.middle(kind, 0));
            all.add("window(" + kind + ", 2, 1) " + x.window(kind, 2, 1));
        }
        all.add("halves(0) " + x.halves(0));
        all.add("canComeOut(2) " + x.canComeOut(2));
        all.add("regions(100) " + x.regions(100));
        return all;
    }

    static void same(Due due, List<String> before, List<String> behind) {
        due.is("as many answers", behind.size(), before.size());
        for (int i = 0; i < before.size() && i < behind.size(); i++) {
            due.is("ahead " + before.get(i) + ", behind " + behind.get(i), behind.get(i).equals(before.get(i)), true);
        }
    }
}
