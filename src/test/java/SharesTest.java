/** Promises 13 to 15, 17 to 19: shares, who loses, breaks, tables, what bleeds, what can come out. */
public final class SharesTest {
    private static final Due DUE = new Due("SharesTest");

    public static void main(String[] args) {
        shares();
        sharesOfNothing();
        loses();
        breaks();
        tables();
        wrongTables();
        bled();
        canComeOut();
        DUE.end();
    }

    private static YearFigures of(int... people) {
        YearFigures x = new YearFigures();
        for (int c = 0; c < people.length; c++) {
            x.county(c, people[c]);
        }
        return x;
    }

    private static void shared(YearFigures x, int many, int way, int... due) {
        for (int c = 0; c < due.length; c++) {
            DUE.is("share(" + c + ", " + many + ", " + way + ")", x.share(c, many, way), due[c]);
        }
    }

    private static void shares() {
        // a book's example: 10 seats for 416, 338, 246
        YearFigures x = of(416, 338, 246);
        shared(x, 10, 0, 4, 3, 3);
        shared(x, 10, 1, 4, 4, 2);
        shared(x, 10, 2, 4, 3, 3);
        shared(x, 10, 3, 4, 3, 3);
        shared(x, 0, 0, 0, 0, 0);
        shared(x, 0, 3, 0, 0, 0);
        YearFigures like = of(50, 50, 50);
        shared(like, 4, 0, 2, 1, 1);
        shared(like, 5, 1, 2, 2, 1);
        shared(like, 2, 2, 1, 1, 0);
        shared(like, 1, 3, 1, 0, 0);
        // those that have none are ahead of all others, and alike: the lowest
        YearFigures few = of(1, 1000, 5);
        shared(few, 1, 3, 1, 0, 0);
        shared(few, 2, 3, 1, 1, 0);
        shared(few, 3, 3, 1, 1, 1);
        shared(few, 999, 3, 1, 993, 5);
        // 9999 people each: like quotients are like, however great
        shared(of(9999, 9999, 9998), 999, 2, 333, 333, 333);
        shared(of(9999, 9999, 9998), 998, 1, 333, 333, 332);
        YearFigures y = of(10, 20);
        DUE.is("not told", y.share(2, 5, 0), -1);
        DUE.is("no such county", y.share(6, 5, 0), -1);
        DUE.is("share(-1)", y.share(-1, 5, 0), -1);
        DUE.is("-1 to share", y.share(0, -1, 0), -1);
        DUE.is("1000 to share", y.share(0, 1000, 0), -1);
        DUE.is("999 to share", y.share(0, 999, 0), 333);
        DUE.is("way -1", y.share(0, 5, -1), -1);
        DUE.is("way 4", y.share(0, 5, 4), -1);
    }

    private static void sharesOfNothing() {
        YearFigures x = of(0, 7, 0, 3);
        for (int way = 0; way <= 3; way++) {
            DUE.is("a county without PEOPLE, way " + way, x.share(0, 9, way), 0);
            DUE.is("another, way " + way, x.share(2, 9, way), 0);
            DUE.is("all are shared, way " + way, x.share(1, 9, way) + x.share(3, 9, way), 9);
        }
        YearFigures none = of(0, 0);
        for (int way = 0; way <= 3; way++) {
            shared(none, 9, way, 0, 0);
            DUE.is("breaks", none.breaks(9, way), 0);
            DUE.is("loses", none.loses(way, 0), -2);
        }
    }

    private static void loses() {
        YearFigures x = of(6, 6, 2);
        DUE.is("number", x.loses(0, 0), 3);
        DUE.is("which", x.loses(0, 1), 2);
        for (int way = 1; way <= 3; way++) {
            DUE.is("way " + way, x.loses(way, 0), -2);
        }
        DUE.is("loses(4, 0)", x.loses(4, 0), -1);
        DUE.is("loses(-1, 0)", x.loses(-1, 0), -1);
        DUE.is("loses(0, 2)", x.loses(0, 2), -1);
        DUE.is("loses(0, -1)", x.loses(0, -1), -1);
        DUE.is("two never lose", of(6, 7).loses(0, 0), -2);
        DUE.is("60 to be shared, the last that is looked at", of(385, 49, 146, 72).loses(0, 0), 60);
        DUE.is("which", of(385, 49, 146, 72).loses(0, 1), 1);
        DUE.is("61 to be shared are too many", of(281, 297, 200, 109).loses(0, 0), -2);
        // brute force over small counties: the first number by which one more takes one away
        for (int a = 1; a < 14; a++) {
            YearFigures y = of(a, 13 - a, 5, 2);
            int number = -2;
            for (int many = 60; many >= 0; many--) {
                for (int c = 0; c < 4; c++) {
                    number = y.share(c, many + 1, 0) < y.share(c, many, 0) ? many : number;
                }
            }
            DUE.is("loses of " + a, y.loses(0, 0), number);
        }
    }

    private static void breaks() {
        // quotas of 10: 8.5, 0.5, 0.5, 0.5; way 1 gives all to a
        YearFigures x = of(85, 5, 5, 5);
        DUE.is("way 1: a has 10, more than rounded up", x.breaks(10, 1), 1);
        DUE.is("way 0 never", x.breaks(10, 0), 0);
        // way 3: each has one, a has 7 of 10: less than 8
        DUE.is("way 3: a has less than rounded down", x.breaks(10, 3), 1);
        // quotas of 10: 8, 0.85, 0.6, 0.55; way 1 gives 9 and 1
        DUE.is("one more than a quota that is whole", of(800, 85, 60, 55).breaks(10, 1), 1);
        DUE.is("breaks(0, 2)", x.breaks(0, 2), 0);
        DUE.is("breaks(-1, 0)", x.breaks(-1, 0), -1);
        DUE.is("breaks(1000, 0)", x.breaks(1000, 0), -1);
        DUE.is("breaks(5, 4)", x.breaks(5, 4), -1);
        DUE.is("breaks(5, -1)", x.breaks(5, -1), -1);
        DUE.is("breaks(999, 0)", x.breaks(999, 0), 0);
    }

    private static void tables() {
        YearFigures x = Due.office(4, 3);
        Due.report(x, "a0+13;b0+7;c0+4");
        DUE.is("off", x.table(3, 1, 10, 0), 6);
        DUE.is("up", x.table(3, 1, 10, 1), 2);
        DUE.is("base 5", x.table(3, 1, 5, 0), 4);
        DUE.is("base 5, up", x.table(3, 1, 5, 1), 1);
        DUE.is("all multiples: off", x.table(8, 7, 10, 0), 0);
        DUE.is("all multiples: none up", x.table(8, 7, 10, 1), 0);
        DUE.is("one that is a multiple stays", x.table(9, 1, 13, 1), 0);
        // a: 5 5, b: 5 5 by 10: one up in each county and each figure, the least bits: b0 and a1
        YearFigures y = Due.office(2, 2);
        Due.report(y, "a0+5;a1+5;b0+5;b1+5");
        DUE.is("crosswise off", y.table(3, 3, 10, 0), 0);
        DUE.is("crosswise: a1 and b0, not a0 and b1", y.table(3, 3, 10, 1), 6);
        YearFigures z = Due.office(6, 6);
        Due.report(z, "b2+4;b5+3;f2+6;f5+8");
        // by 10: 4 3 / 6 8: up b5, f2: off 3, -4; 0, -1. Up b2, f5: 3, -4; 0, -1 too, but more bits
        DUE.is("county by county", z.table(34, 36, 10, 1), 6);
        DUE.is("its off", z.table(34, 36, 10, 0), 8);
        DUE.is("a single one: half down", y.table(1, 1, 10, 1), 0);
        DUE.is("a single one: off as county and as figure", y.table(1, 1, 10, 0), 10);
        DUE.is("4 by 3", z.table(15, 7, 50, 0), 8);
        // by 4: with a multiple that may go up 84 would be as good, with no 1 that may go up 196
        filled(4, 3, 4, new int[] {4, 9, 3, 9, 0, 9, 2, 6, 6, 8, 5, 8}, 8, 98);
        // by 2: with the sum of all off by 2, 8 would be as good
        filled(2, 3, 2, new int[] {9, 0, 4, 9, 3, 1}, 4, 17);
        filled(2, 1, 2, new int[] {5, 2}, 2, 0);
    }

    private static void filled(int counties, int figures, int base, int[] counts, int off, int up) {
        YearFigures x = Due.office(counties, figures);
        for (int i = 0; i < counts.length; i++) {
            Due.report(x, "" + (char) ('a' + i / figures) + i % figures + "+" + counts[i]);
        }
        DUE.is("off of 4 by 3", x.table((1 << counties) - 1, (1 << figures) - 1, base, 0), off);
        DUE.is("up of 4 by 3", x.table((1 << counties) - 1, (1 << figures) - 1, base, 1), up);
    }

    private static void wrongTables() {
        YearFigures x = Due.office(5, 4);
        DUE.is("no county", x.table(0, 1, 10, 0), -1);
        DUE.is("five counties", x.table(31, 1, 10, 0), -1);
        DUE.is("one that is not told", x.table(33, 1, 10, 0), -1);
        DUE.is("no such county", x.table(65, 1, 10, 0), -1);
        DUE.is("negative", x.table(-1, 1, 10, 0), -1);
        DUE.is("least", x.table(Integer.MIN_VALUE, 1, 10, 0), -1);
        DUE.is("no figure", x.table(1, 0, 10, 0), -1);
        DUE.is("four figures", x.table(1, 15, 10, 0), -1);
        DUE.is("a figure that is not told", x.table(1, 16, 10, 0), -1);
        DUE.is("base 1", x.table(1, 1, 1, 0), -1);
        DUE.is("base 51", x.table(1, 1, 51, 0), -1);
        DUE.is("base 0", x.table(1, 1, 0, 0), -1);
        DUE.is("base 2", x.table(1, 1, 2, 0), 0);
        DUE.is("base 50", x.table(15, 7, 50, 0), 0);
        DUE.is("what 2", x.table(1, 1, 10, 2), -1);
        DUE.is("what -1", x.table(1, 1, 10, -1), -1);
    }

    private static void bled() {
        YearFigures x = of(10, 10, 10, 10);
        x.figure(0, 40);
        Due.report(x, "a0+25;b0+12;c0+1;d0+4");
        DUE.is("over", x.bled(0, 0), 17);
        DUE.is("under", x.bled(0, 1), 15);
        DUE.is("none is NEXT", x.bled(0, 2), 0);
        x.next(0, 1, true);
        DUE.is("two over: none", x.bled(0, 2), 0);
        x.next(3, 0, true);
        DUE.is("no more than it is under", x.bled(0, 2), 6);
        x.next(1, 2, true);
        DUE.is("no more than it is over", x.bled(0, 2), 8);
        x.next(0, 2, true);
        DUE.is("all that is under", x.bled(0, 2), 15);
        x.next(0, 3, false);
        DUE.is("c takes of both", x.bled(0, 2), 9);
        x.next(1, 3, true);
        DUE.is("b gives to d", x.bled(0, 2), 9 + 2);
        DUE.is("bled(1, 0)", x.bled(1, 0), -1);
        DUE.is("bled(0, 3)", x.bled(0, 3), -1);
        DUE.is("bled(0, -1)", x.bled(0, -1), -1);
        DUE.is("bled(-1, 0)", x.bled(-1, 0), -1);
        x.figure(0, 9999);
        DUE.is("a great TARGET", x.bled(0, 1), 9999 - 42);
        YearFigures none = of(0, 0);
        none.figure(0, 10);
        Due.report(none, "a0+3");
        DUE.is("without PEOPLE all is over", none.bled(0, 0), 3);
    }

    private static void canComeOut() {
        YearFigures x = Due.office(1, 4);
        Due.law(x, "k1(f=0);k2(f=1);k2(f=2);k9(f=3)");
        x.figure(0, 6);
        x.figure(1, 3);
        x.figure(2, 3);
        x.figure(3, 0);
        x.staff(11);
        DUE.is("one of like ones, and what is at TARGET", x.canComeOut(0), 2);
        DUE.is("the least bits", x.canComeOut(1), 8 + 1);
        DUE.is("DAYS", x.canComeOut(2), 6);
        x.staff(12);
        DUE.is("two, and what is at TARGET", x.canComeOut(0), 3);
        DUE.is("which", x.canComeOut(1), 8 + 2 + 1);
        DUE.is("DAYS of three", x.canComeOut(2), 12);
        x.figure(2, 1);
        DUE.is("the fewest DAYS", x.canComeOut(1), 8 + 4 + 1);
        DUE.is("so many", x.canComeOut(2), 8);
        Due.report(x, "a3+1");
        DUE.is("above TARGET it can't", x.canComeOut(1), 4 + 1);
        x.staff(0);
        DUE.is("none", x.canComeOut(0), 0);
        DUE.is("no bits", x.canComeOut(1), 0);
        x.staff(9999);
        x.figure(3, 202);
        DUE.is("201 more: it can't", x.canComeOut(1), 7);
        x.figure(3, 201);
        DUE.is("200 more: it can", x.canComeOut(1), 15);
        DUE.is("for 9 each", x.figureIs(3, 3), 1800);
        DUE.is("all DAYS", x.canComeOut(2), 14 + 1800);
        DUE.is("canComeOut(3)", x.canComeOut(3), -1);
        DUE.is("canComeOut(-1)", x.canComeOut(-1), -1);
        DUE.is("COUNTS are as they were", x.figureIs(0, 1), 0);
        // in December, from now on: m is 11, and what is asked changes with each
        YearFigures y = Due.office(2, 1);
        y.figure(0, 4);
        Due.law(y, "k50(m<11);k7(c=0);k5+a(1=1)");
        DUE.is("b for 5, 6, 7 is not less than a's 7: a, a", y.figureIs(0, 3), 5 + 6 + 7 + 7);
        y.figure(0, 2);
        Due.law(y, "k1(s=0);k2(c=0&a=0);k9(1=1)");
        DUE.is("of like ones the lowest, by which the second is dear", y.figureIs(0, 3), 1 + 9);
        y.staff(20);
        DUE.is("in December too", y.tried(12, 2), 1 + 9);
    }
}
