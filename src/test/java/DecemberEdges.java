/** Edges of promises 9, 12 and 19: what the staff does in December, what it would need, what can come out. */
final class DecemberEdges {
    private DecemberEdges() {
    }

    @Edge(promise = 9, says = "In MONTH 11, behind that, the STAFF goes out")
    static void staffGoesOutInMonth11(Due due) {
        YearFigures x = Due.under(1, 1, "n1(m=11);k1(1=1)");
        x.figure(0, 5);
        x.staff(99);
        due.is("not in MONTHS 0 to 10", x.tried(11, 3), 0);
        due.is("in MONTH 11, behind what happens in it", x.tried(12, 3), 4);
        due.is("once a YEAR", x.tried(35, 3), 8);
    }

    @Edge(promise = 9, says = "the STAFF goes out: each told figure, by numbers")
    static void eachToldFigureByNumbers(Due due) {
        YearFigures x = new YearFigures();
        x.county(3, 0);
        x.figure(5, 2);
        x.figure(2, 2);
        x.staff(7);
        Due.law(x, "k2(1=1)");
        due.is("3 in all", x.tried(12, 3), 3);
        x.months(12);
        due.is("figure 2 is the first", x.published(2, 0), 2);
        due.is("figure 5 has what is left", x.published(5, 0), 1);
        YearFigures none = Due.office(6, 0);
        none.staff(99);
        due.is("without a figure none is made", none.tried(60, 3), 0);
    }

    @Edge(promise = 9, says = "while its COUNT in all counties is below TARGET")
    static void whileBelowTarget(Due due) {
        int[] made = {3, 2, 1, 0, 0};
        for (int counted = 0; counted <= 4; counted++) {
            YearFigures x = Due.under(2, 1, "k1(1=1)");
            x.figure(0, 3);
            x.staff(99);
            Due.report(x, "a0+" + counted / 2 + ";b0+" + (counted - counted / 2));
            due.is("made with " + counted, x.tried(12, 3), made[counted]);
            due.is("came out with " + counted, x.tried(12, 1), counted <= 3 ? 1 : 0);
        }
        YearFigures zero = Due.under(1, 1, "k1(1=1)");
        zero.figure(0, 0);
        zero.staff(99);
        due.is("0 is not below 0", zero.tried(12, 3), 0);
        due.is("without a county none is made", Due.office(0, 1).tried(12, 3), 0);
    }

    @Edge(promise = 9, says = "and at most 200 times")
    static void atMost200Times(Due due) {
        YearFigures x = Due.under(2, 2, "k0(1=1)");
        x.figure(0, 200);
        x.figure(1, 0);
        due.is("200 times", x.tried(12, 3), 200);
        due.is("both come out", x.tried(12, 1), 2);
        x.figure(0, 201);
        due.is("not 201 times", x.tried(12, 3), 200);
        due.is("one comes out", x.tried(12, 1), 1);
        x.figure(1, 201);
        due.is("200 times for each figure", x.tried(12, 3), 400);
        Due.report(x, "a1+1");
        due.is("from 1 on to 201", x.tried(12, 1), 1);
    }

    @Edge(promise = 9, says = "one more in the told county with the least k (of like ones the lowest; asked as it is then)")
    static void theCountyWithTheLeastK(Due due) {
        // who had the first is seen by the second: 2 DAYS if it was the lowest, 9 else
        YearFigures like = Due.under(6, 1, "k1(s=0);k2(c=0&a=1);k9(1=1)");
        like.figure(0, 2);
        like.staff(9999);
        due.is("of like ones the lowest", like.tried(12, 2), 3);
        YearFigures told = new YearFigures();
        told.county(4, 0);
        told.county(2, 0);
        told.figure(3, 2);
        told.staff(9999);
        Due.law(told, "k0(c=0);k1(s=0);k2(c=2&a=1);k9(1=1)");
        due.is("the lowest of those that are told", told.tried(12, 2), 3);
        YearFigures last = Due.under(6, 1, "k4(c=5);k5(1=1)");
        last.figure(0, 7);
        last.staff(9999);
        due.is("the last with the least", last.tried(12, 2), 28);
        // 1 2 3 for a's first three, then b for 4 each: asked as it is then
        YearFigures then = Due.under(2, 1, "k1+a(c=0);k4(1=1)");
        then.figure(0, 7);
        then.staff(9999);
        due.is("1, 2, 3 and 4 four times", then.tried(12, 2), 1 + 2 + 3 + 4 * 4);
        // s is asked as it is then, too
        YearFigures all = Due.under(2, 1, "k1+s(1=1)");
        all.figure(0, 4);
        all.staff(9999);
        due.is("1, 2, 3, 4", all.tried(12, 2), 10);
        YearFigures december = Due.under(1, 1, "k9(m<11);k2(m=11);k9(1=1)");
        december.figure(0, 4);
        december.staff(9999);
        due.is("THE MONTH is 11 then", december.tried(12, 2), 8);
    }

    @Edge(promise = 9, says = "if as many DAYS of the STAFF are left in this YEAR (else it is done with that figure)")
    static void asManyDaysAsAreLeft(Due due) {
        int[] made = {0, 0, 0, 1, 1, 1, 2, 2, 2, 3, 3};
        for (int days = 0; days <= 10; days++) {
            YearFigures x = Due.under(1, 1, "k3(1=1)");
            x.figure(0, 3);
            x.staff(days);
            due.is("made with " + days + " DAYS", x.tried(12, 3), made[days]);
            due.is("used with " + days + " DAYS", x.tried(12, 2), 3 * made[days]);
            due.is("came out with " + days + " DAYS", x.tried(12, 1), days >= 9 ? 1 : 0);
        }
        YearFigures two = Due.under(1, 2, "k7(f=0);k2(1=1)");
        two.figure(0, 2);
        two.figure(1, 2);
        two.staff(11);
        due.is("done with figure 0, not with figure 1", two.tried(12, 3), 3);
        due.is("DAYS of both", two.tried(12, 2), 11);
        due.is("figure 1 came out", two.tried(12, 1), 1);
        two.staff(6);
        due.is("figure 0 has none", two.tried(12, 2), 4);
        // the cheapest that comes later is not waited for
        YearFigures first = Due.under(1, 1, "k5(a=0);k0(1=1)");
        first.figure(0, 9);
        first.staff(4);
        due.is("the first is too dear", first.tried(12, 3), 0);
        first.staff(5);
        due.is("the first, and the others for none", first.tried(12, 3), 9);
        YearFigures none = Due.under(1, 1, "k0(1=1)");
        none.figure(0, 9);
        due.is("0 DAYS are left, and 0 are enough", none.tried(12, 3), 9);
    }

    @Edge(promise = 9, says = "then CAME OUT is more by as many told figures as are at their TARGET")
    static void cameOutAtTarget(Due due) {
        YearFigures x = Due.under(1, 3, "k1(1=1)");
        x.figure(0, 4);
        x.figure(1, 5);
        x.figure(2, 6);
        Due.report(x, "a0+5;a1+5;a2+5");
        x.months(12);
        due.is("one above, one at, one below", x.count(4), 1);
        x.figure(0, 0);
        x.figure(1, 0);
        x.figure(2, 0);
        x.months(12);
        due.is("three at 0", x.count(4), 4);
        YearFigures none = new YearFigures();
        none.months(60);
        due.is("no figure is told", none.count(4), 0);
    }

    @Edge(promise = 9, says = "what each told figure is (its COUNT in all counties) is PUBLISHED")
    static void publishedInAllCounties(Due due) {
        YearFigures x = Due.under(6, 1, "k1(1=1)");
        for (int c = 0; c < 6; c++) {
            Due.fill(x, c, 0);
        }
        x.months(12);
        due.is("the most", x.published(0, 0), 59994);
        x.figure(0, 0);
        x.months(12);
        due.is("the least", x.published(0, 0), 0);
        due.is("the one before", x.published(0, 1), 59994);
    }

    @Edge(promise = 9, says = "all COUNTS, all of HISTORY are 0, all DAYS of the STAFF are left again, THE MONTH 0")
    static void allIsZeroInJanuary(Due due) {
        YearFigures x = Due.under(6, 6, "n1+c(1=1);k1(1=1)");
        x.staff(77);
        x.months(12);
        for (int i = 0; i < 36; i++) {
            due.is("COUNT " + i, x.counted(i / 6, i % 6), 0);
        }
        for (int m = 0; m < 12; m++) {
            due.is("HISTORY of " + m, x.figureIs(0, 10 + m), 0);
            due.is("HISTORY of 5 of " + m, x.figureIs(5, 10 + m), 0);
        }
        for (int f = 0; f < 6; f++) {
            due.is("in all " + f, x.figureIs(f, 1), 0);
        }
        due.is("DAYS", x.count(5), 77);
        due.is("THE MONTH", x.count(1), 0);
        due.is("THE YEAR", x.count(0), 1);
        x.staff(5);
        x.keep();
        x.staff(9);
        x.undo();
        x.months(12);
        due.is("as many DAYS as the STAFF has, not as were KEPT", x.count(5), 9);
    }

    // ---- 12 and 19

    @Edge(promise = 12, says = "3 DAYS that it needs (-2: it can't)")
    static void daysThatItNeeds(Due due) {
        YearFigures x = Due.under(1, 1, "k2(1=1)");
        x.figure(0, 5);
        due.is("whatever the STAFF has", x.figureIs(0, 3), 10);
        Due.report(x, "a0+4");
        due.is("one below TARGET", x.figureIs(0, 3), 2);
        Due.report(x, "a0+1");
        due.is("at TARGET", x.figureIs(0, 3), 0);
        Due.report(x, "a0+1");
        due.is("one above TARGET", x.figureIs(0, 3), -2);
        YearFigures none = Due.office(0, 1);
        due.is("without a county", none.figureIs(0, 3), -2);
        none.figure(0, 0);
        due.is("at TARGET without a county", none.figureIs(0, 3), 0);
    }

    @Edge(promise = 12, says = "more than 200 more: it can't")
    static void moreThan200More(Due due) {
        YearFigures x = Due.under(1, 1, "k99(1=1)");
        x.figure(0, 200);
        due.is("200 more", x.figureIs(0, 3), 19800);
        x.figure(0, 201);
        due.is("201 more", x.figureIs(0, 3), -2);
        Due.report(x, "a0+1");
        due.is("200 more from 1 on", x.figureIs(0, 3), 19800);
        x.figure(0, 9999);
        due.is("9998 more", x.figureIs(0, 3), -2);
    }

    @Edge(promise = 12, says = "(as in December, for itself alone, from now, m 11;")
    static void asInDecemberFromNow(Due due) {
        YearFigures x = Due.under(2, 2, "n5(1=1);k9(m<11);k50(m>11);k1+a(c=0);k3(1=1)");
        x.figure(0, 5);
        due.is("m is 11, asked as it is then: 1 2 3 (a of like ones) 3 3", x.figureIs(0, 3), 12);
        due.is("of the other alone", x.figureIs(1, 3), 1 + 2 + 98 * 3);
        due.is("nothing is changed", x.figureIs(0, 1) + x.count(1) + x.counted(0, 0), 0);
        Due.report(x, "a0+2;b0+1");
        due.is("from now on: 3 for a, which has 2, then b", x.figureIs(0, 3), 6);
    }

    private static YearFigures four() {
        YearFigures x = Due.under(1, 4, "k1(f=0);k2(f=1);k3(f=2);k4(1=1)");
        for (int f = 0; f < 4; f++) {
            x.figure(f, 1);
        }
        return x;
    }

    @Edge(promise = 19, says = "which figures with the DAYS of STAFF that are left: the most; of like ones the fewest DAYS, then the least bits.")
    static void theMostThenTheFewestDays(Due due) {
        int[] many = {0, 1, 1, 2, 2, 2, 3, 3, 3, 3, 4, 4};
        int[] which = {0, 1, 1, 3, 3, 3, 7, 7, 7, 7, 15, 15};
        int[] days = {0, 1, 1, 3, 3, 3, 6, 6, 6, 6, 10, 10};
        YearFigures x = four();
        for (int staff = 0; staff < many.length; staff++) {
            x.staff(staff);
            due.is("how many with " + staff, x.canComeOut(0), many[staff]);
            due.is("which with " + staff, x.canComeOut(1), which[staff]);
            due.is("DAYS with " + staff, x.canComeOut(2), days[staff]);
        }
        YearFigures like = Due.under(1, 6, "k5(1=1)");
        for (int f = 0; f < 6; f++) {
            like.figure(f, 1);
        }
        like.staff(14);
        due.is("of like ones the least bits", like.canComeOut(1), 3);
        like.figure(0, 2);
        due.is("1 and 2 are cheaper than 0 and 1", like.canComeOut(1), 6);
        due.is("their DAYS", like.canComeOut(2), 10);
        like.staff(9999);
        due.is("all", like.canComeOut(1), 63);
        due.is("all DAYS", like.canComeOut(2), 35);
        like.staff(0);
        due.is("none", like.canComeOut(1), 0);
        due.is("no DAYS", like.canComeOut(2), 0);
        // 4, 3, 2, 1 DAYS
        YearFigures falling = Due.under(1, 4, "k4-f(1=1)");
        for (int f = 0; f < 4; f++) {
            falling.figure(f, 1);
        }
        int[] best = {0, 8, 8, 12, 12, 12, 14, 14, 14, 14, 15};
        for (int staff = 0; staff < best.length; staff++) {
            falling.staff(staff);
            due.is("the fewest DAYS with " + staff, falling.canComeOut(1), best[staff]);
        }
    }

    @Edge(promise = 19, says = "with the DAYS of STAFF that are left")
    static void withTheDaysThatAreLeft(Due due) {
        YearFigures x = four();
        x.staff(3);
        x.keep();
        x.staff(10);
        due.is("10 are left", x.canComeOut(0), 4);
        x.undo();
        due.is("3 are left, though the STAFF has 10", x.canComeOut(0), 2);
    }

    @Edge(promise = 19, says = "more than 200 more: it can't; at TARGET: 0; above: it can't")
    static void atAboveAndFarBelowTarget(Due due) {
        YearFigures x = Due.under(1, 4, "k0(1=1)");
        x.figure(0, 200);
        x.figure(1, 201);
        x.figure(2, 5);
        x.figure(3, 5);
        Due.report(x, "a2+5;a3+6");
        due.is("200 more and at TARGET", x.canComeOut(1), 5);
        due.is("how many", x.canComeOut(0), 2);
        due.is("for no DAYS", x.canComeOut(2), 0);
        YearFigures none = new YearFigures();
        due.is("no figure: how many", none.canComeOut(0), 0);
        due.is("no figure: which", none.canComeOut(1), 0);
        due.is("no figure: DAYS", none.canComeOut(2), 0);
        YearFigures county = Due.office(0, 2);
        county.figure(1, 0);
        due.is("without a county only what is at TARGET", county.canComeOut(1), 2);
    }

    @Edge(promise = 19, says = "CAN COME OUT: for each told figure below TARGET DAYS that it needs")
    static void daysOfEachToldFigure(Due due) {
        YearFigures x = new YearFigures();
        x.county(5, 0);
        x.figure(5, 1);
        Due.law(x, "k99(1=1)");
        x.staff(98);
        due.is("one DAY too few", x.canComeOut(0), 0);
        x.staff(99);
        due.is("just as many", x.canComeOut(0), 1);
        due.is("which", x.canComeOut(1), 32);
        due.is("DAYS", x.canComeOut(2), 99);
    }

    @Edge(promise = 19, says = "CAN COME OUT, what 0 how many, 1 which (bits), 2 DAYS")
    static void allSixCanComeOut(Due due) {
        YearFigures x = Due.under(6, 6, "k99(1=1)");
        for (int f = 0; f < 6; f++) {
            x.figure(f, 16);
        }
        x.staff(9999);
        due.is("how many", x.canComeOut(0), 6);
        due.is("which", x.canComeOut(1), 63);
        due.is("DAYS", x.canComeOut(2), 6 * 16 * 99);
        x.figure(5, 22);
        due.is("10098 DAYS are too many: five", x.canComeOut(0), 5);
        due.is("all but the dearest", x.canComeOut(1), 31);
    }

    @Edge(promise = 19, says = "NONE: no such what.")
    static void canComeOutOfNoSuchWhat(Due due) {
        YearFigures x = four();
        for (int what : Due.outside(0, 2)) {
            due.is("canComeOut(" + what + ")", x.canComeOut(what), -1);
        }
    }

    @Edge(promise = 19, says = "for itself alone, from now, m 11")
    static void eachForItselfAlone(Due due) {
        YearFigures x = Due.under(1, 2, "k50(m<11);k1+s(1=1)");
        x.figure(0, 3);
        x.figure(1, 3);
        x.staff(12);
        due.is("both for 1 2 3", x.canComeOut(2), 12);
        due.is("both", x.canComeOut(1), 3);
        x.staff(11);
        due.is("the first for 6", x.canComeOut(2), 6);
        due.is("the first", x.canComeOut(1), 1);
        due.is("nothing is changed", x.figureIs(0, 1) + x.figureIs(1, 1) + x.count(1), 0);
    }
}
