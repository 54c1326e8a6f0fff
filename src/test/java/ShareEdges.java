/** Edges of promises 13, 14, 15 and 18: shares, who loses by one more, breaks, what bleeds. */
final class ShareEdges {
    private ShareEdges() {
    }

    private static YearFigures of(int... people) {
        YearFigures x = new YearFigures();
        for (int c = 0; c < people.length; c++) {
            x.county(c, people[c]);
        }
        return x;
    }

    private static void shared(Due due, YearFigures x, int many, int way, int... want) {
        for (int c = 0; c < want.length; c++) {
            due.is("share(" + c + ", " + many + ", " + way + ")", x.share(c, many, way), want[c]);
        }
    }

    // ---- 13

    @Edge(promise = 13, says = "A SHARE for a told county of so many (0 to 999) in a WAY (0 to 3)")
    static void sharesOf0To999(Due due) {
        YearFigures x = of(5, 5, 5, 5, 5, 5);
        for (int way = 0; way <= 3; way++) {
            due.is("none to share in " + way, x.share(0, 0, way), 0);
            due.is("one to share in " + way, x.share(0, 1, way), 1);
            due.is("999 to share in " + way, x.share(2, 999, way), 167);
            due.is("999 to share in " + way + ", the last", x.share(5, 999, way), 166);
        }
    }

    @Edge(promise = 13, says = "NONE: no such ones.")
    static void sharesOfNoSuchOnes(Due due) {
        YearFigures x = of(5, 5, 5, 5, 5);
        for (int way = 0; way <= 3; way++) {
            due.is("one that is not told in " + way, x.share(5, 9, way), -1);
            for (int many : Due.outside(0, 999)) {
                due.is("share(0, " + many + ", " + way + ")", x.share(0, many, way), -1);
            }
        }
        for (int c : Due.outside(0, 5)) {
            due.is("share(" + c + ", 9, 0)", x.share(c, 9, 0), -1);
        }
        for (int way : Due.outside(0, 3)) {
            due.is("share(0, 9, " + way + ")", x.share(0, 9, way), -1);
        }
    }

    @Edge(promise = 13, says = "in WAY 0: each its PEOPLE times them through all PEOPLE, rounded down, what is left one by one to those with the greatest "
        + "rest (of like ones the lowest)")
    static void wayOfTheGreatestRests(Due due) {
        YearFigures like = of(5, 5, 5);
        shared(due, like, 3, 0, 1, 1, 1);
        shared(due, like, 4, 0, 2, 1, 1);
        shared(due, like, 5, 0, 2, 2, 1);
        // 3.5, 2.5, 1: the first of two like rests
        shared(due, of(7, 5, 2), 7, 0, 4, 2, 1);
        // 4.16, 3.38, 2.46: the last has the greatest rest
        shared(due, of(416, 338, 246), 10, 0, 4, 3, 3);
        shared(due, of(9999, 9999, 9999, 9999, 9999, 9999), 999, 0, 167, 167, 167, 166, 166, 166);
        shared(due, of(9999, 1), 999, 0, 999, 0);
        shared(due, of(1, 9999), 1, 0, 0, 1);
    }

    @Edge(promise = 13, says = "WAY 1, 2, 3: one by one, each to the county with the greatest PEOPLE through (what it has and 1)")
    static void wayOfWhatItHasAnd1(Due due) {
        YearFigures x = of(100, 50);
        shared(due, x, 1, 1, 1, 0);
        // 100 through 2 is 50 through 1: the lowest
        shared(due, x, 2, 1, 2, 0);
        shared(due, x, 3, 1, 2, 1);
        shared(due, of(50, 100), 2, 1, 1, 1);
        shared(due, of(9999, 9999, 9999, 9999, 9999, 9999), 999, 1, 167, 167, 167, 166, 166, 166);
        // 9990 through 999 is 10 through 1
        shared(due, of(9990, 9, 10), 999, 1, 999, 0, 0);
        shared(due, of(10, 9, 9990), 999, 1, 1, 0, 998);
    }

    @Edge(promise = 13, says = "through (twice that and 1)")
    static void wayOfTwiceThatAnd1(Due due) {
        YearFigures x = of(90, 30);
        shared(due, x, 1, 2, 1, 0);
        // 90 through 3 is 30 through 1: the lowest
        shared(due, x, 2, 2, 2, 0);
        shared(due, x, 3, 2, 2, 1);
        shared(due, of(30, 90), 2, 2, 1, 1);
        shared(due, of(9999, 9999, 9999, 9999, 9999, 9999), 999, 2, 167, 167, 167, 166, 166, 166);
    }

    @Edge(promise = 13, says = "through (what it has; those that have none ahead of all others) (of like ones the lowest).")
    static void wayOfWhatItHas(Due due) {
        YearFigures x = of(60, 30);
        shared(due, x, 1, 3, 1, 0);
        shared(due, x, 2, 3, 1, 1);
        shared(due, x, 3, 3, 2, 1);
        // 60 through 2 is 30 through 1: the lowest
        shared(due, x, 4, 3, 3, 1);
        shared(due, x, 5, 3, 3, 2);
        shared(due, of(9999, 1), 2, 3, 1, 1);
        shared(due, of(9999, 1, 1, 1, 1, 1), 6, 3, 1, 1, 1, 1, 1, 1);
        shared(due, of(9999, 1, 1, 1, 1, 1), 999, 3, 994, 1, 1, 1, 1, 1);
        shared(due, of(5, 5, 5), 1, 3, 1, 0, 0);
        shared(due, of(9999, 9999, 9999, 9999, 9999, 9999), 999, 3, 167, 167, 167, 166, 166, 166);
    }

    @Edge(promise = 13, says = "A county without PEOPLE has none in any WAY.")
    static void countyWithoutPeople(Due due) {
        for (int way = 0; way <= 3; way++) {
            shared(due, of(0, 1, 0, 0, 0, 0), 999, way, 0, 999, 0, 0, 0, 0);
            shared(due, of(0, 3, 2, 0), 7, way, 0, 4, 3, 0);
            shared(due, of(0, 0), 999, way, 0, 0);
            shared(due, of(0), 0, way, 0);
        }
    }

    @Edge(promise = 13, says = "SHARES of so many (0 to 999) for all told counties by PEOPLE")
    static void allIsShared(Due due) {
        YearFigures x = of(9999, 1, 3333, 0, 77, 500);
        int[] many = {0, 1, 2, 5, 6, 7, 100, 998, 999};
        for (int way = 0; way <= 3; way++) {
            for (int one : many) {
                int sum = 0;
                for (int c = 0; c < 6; c++) {
                    sum += x.share(c, one, way);
                }
                due.is(one + " are shared in way " + way, sum, one);
            }
        }
    }

    // ---- 14

    @Edge(promise = 14, says = "A COUNTY LOSES: the least number to be shared (0 to 60) by which one more makes some county have less")
    static void theLeastNumberUpTo60(Due due) {
        YearFigures x = of(6, 6, 2);
        due.is("3", x.loses(0, 0), 3);
        due.is("of 3 c has one", x.share(2, 3, 0), 1);
        due.is("of 4 none", x.share(2, 4, 0), 0);
        YearFigures last = of(385, 49, 146, 72);
        due.is("60, the last", last.loses(0, 0), 60);
        due.is("of 60", last.share(1, 60, 0), 5);
        due.is("of 61", last.share(1, 61, 0), 4);
    }

    @Edge(promise = 14, says = "the lowest of those.")
    static void theLowestThatLoses(Due due) {
        YearFigures x = of(24, 7, 7, 23, 7, 57);
        due.is("the number", x.loses(0, 0), 7);
        due.is("b and c lose: b", x.loses(0, 1), 1);
        due.is("c loses, too", x.share(2, 7, 0) - x.share(2, 8, 0), 1);
        YearFigures y = of(51, 53, 7, 17, 55, 16);
        due.is("the number", y.loses(0, 0), 5);
        due.is("d and f lose: d", y.loses(0, 1), 3);
    }

    @Edge(promise = 14, says = "A COUNTY LOSES in a WAY (0 to 3), what 0 the number, 1 which")
    static void theFirstAndTheLastCountyLose(Due due) {
        due.is("by 3", of(2, 6, 6).loses(0, 0), 3);
        due.is("the first of three", of(2, 6, 6).loses(0, 1), 0);
        due.is("the last of three", of(6, 6, 2).loses(0, 1), 2);
        YearFigures x = of(0, 0, 0, 6, 6, 2);
        due.is("the last of all", x.loses(0, 1), 5);
        for (int way = 1; way <= 3; way++) {
            due.is("none in way " + way, x.loses(way, 1), -2);
        }
    }

    @Edge(promise = 14, says = "-2: none up to 60")
    static void noneLosesUpTo60(Due due) {
        YearFigures beyond = of(281, 297, 200, 109);
        due.is("61 is beyond", beyond.loses(0, 0), -2);
        due.is("which", beyond.loses(0, 1), -2);
        int before = 0;
        int behind = 0;
        for (int c = 0; c < 4; c++) {
            before = Math.max(before, beyond.share(c, 61, 0) - beyond.share(c, 62, 0));
            behind = Math.max(behind, beyond.share(c, 60, 0) - beyond.share(c, 61, 0));
        }
        due.is("by 61 one loses", before, 1);
        due.is("by 60 none does", behind, 0);
        for (int way = 1; way <= 3; way++) {
            due.is("way " + way, of(6, 6, 2).loses(way, 0), -2);
            due.is("way " + way + ", which", of(6, 6, 2).loses(way, 1), -2);
        }
        for (int way = 0; way <= 3; way++) {
            due.is("no county", new YearFigures().loses(way, 0), -2);
            due.is("no PEOPLE", of(0, 0).loses(way, 1), -2);
            due.is("one county", of(7).loses(way, 0), -2);
        }
    }

    @Edge(promise = 14, says = "NONE: no such ones.")
    static void losesOfNoSuchOnes(Due due) {
        YearFigures x = of(6, 6, 2);
        for (int way : Due.outside(0, 3)) {
            due.is("loses(" + way + ", 0)", x.loses(way, 0), -1);
        }
        for (int what : Due.outside(0, 1)) {
            due.is("loses(0, " + what + ")", x.loses(0, what), -1);
            due.is("loses(1, " + what + ")", x.loses(1, what), -1);
        }
    }

    // ---- 15

    @Edge(promise = 15, says = "told counties (bits) that have less than PEOPLE times them through all PEOPLE rounded down, or more than rounded up.")
    static void lessThanRoundedDownOrMoreThanRoundedUp(Due due) {
        // of 10: 8.5 and 0.5 three times
        YearFigures x = of(85, 5, 5, 5);
        due.is("way 1: 10 is more than 9", x.breaks(10, 1), 1);
        due.is("way 3: 7 is less than 8", x.breaks(10, 3), 1);
        due.is("way 3 of 4: 1 is less than 3", x.breaks(4, 3), 1);
        due.is("way 2", x.breaks(10, 2), 0);
        // 8 is whole: 9 is more than rounded up
        due.is("one more than a whole", of(800, 85, 60, 55).breaks(10, 1), 1);
        // of 4: 2, 1, 1 are whole
        for (int way = 0; way <= 3; way++) {
            due.is("whole ones, way " + way, of(20, 10, 10).breaks(4, way), 0);
        }
        // a third, rounded up, is one
        due.is("one of a third", of(1, 2).breaks(1, 3), 0);
        // of 2 in way 3 a and b have one each, c none: c's 1.8 rounded down is 1
        due.is("the last has less", of(1, 1, 18).breaks(2, 3), 4);
    }

    @Edge(promise = 15, says = "BREAKS: by SHARES of so many in a WAY")
    static void breaksByEachWay(Due due) {
        // of 10: 8.5 and 0.5 three times; 9 1 0 0, 10 0 0 0, 9 1 0 0, 7 1 1 1
        int[] want = {0, 1, 0, 1};
        for (int way = 0; way <= 3; way++) {
            due.is("way " + way, of(85, 5, 5, 5).breaks(10, way), want[way]);
            due.is("way " + way + ", the last four", of(0, 0, 85, 5, 5, 5).breaks(10, way), 4 * want[way]);
        }
    }

    @Edge(promise = 15, says = "BREAKS by so many (0 to 999) in a WAY (0 to 3): counties (bits)")
    static void breaksOf0To999(Due due) {
        YearFigures x = of(9999, 1, 0, 1, 1, 1);
        for (int way = 0; way <= 3; way++) {
            due.is("0 to share in " + way, x.breaks(0, way), 0);
            due.is("no county", new YearFigures().breaks(999, way), 0);
            due.is("no PEOPLE", of(0, 0).breaks(999, way), 0);
        }
        due.is("999 in way 0", x.breaks(999, 0), 0);
        due.is("999 in way 3: 995 is less than 998", x.breaks(999, 3), 1);
        due.is("the last of six", of(1, 1, 1, 1, 1, 9999).breaks(5, 3), 32);
    }

    @Edge(promise = 15, says = "NONE: no such ones.")
    static void breaksOfNoSuchOnes(Due due) {
        YearFigures x = of(9999, 1, 0, 1, 1, 1);
        for (int way = 0; way <= 3; way++) {
            for (int many : Due.outside(0, 999)) {
                due.is("breaks(" + many + ", " + way + ")", x.breaks(many, way), -1);
            }
        }
        for (int way : Due.outside(0, 3)) {
            due.is("breaks(5, " + way + ")", x.breaks(5, way), -1);
        }
    }

    // ---- 18

    @Edge(promise = 18, says = "a county with a COUNT above its share is over, one below it under: how much there is that is over; under")
    static void overAndUnder(Due due) {
        YearFigures x = of(10, 10, 10);
        x.figure(0, 30);
        Due.report(x, "a0+10;b0+11;c0+9");
        due.is("one above", x.bled(0, 0), 1);
        due.is("one below", x.bled(0, 1), 1);
        Due.report(x, "b0-1;c0+1");
        due.is("just so: none over", x.bled(0, 0), 0);
        due.is("just so: none under", x.bled(0, 1), 0);
        x.figure(0, 0);
        due.is("TARGET 0: all is over", x.bled(0, 0), 30);
        due.is("TARGET 0: none under", x.bled(0, 1), 0);
        YearFigures empty = of(9999, 9999, 9999, 9999, 9999, 9999);
        empty.figure(5, 9999);
        due.is("TARGET 9999: all is under", empty.bled(5, 1), 9999);
        due.is("TARGET 9999: none over", empty.bled(5, 0), 0);
        YearFigures full = of(0, 0, 0, 0, 0, 0);
        full.figure(0, 9999);
        for (int c = 0; c < 6; c++) {
            Due.fill(full, c, 0);
        }
        due.is("without PEOPLE there are no shares", full.bled(0, 0), 59994);
        due.is("none is under", full.bled(0, 1), 0);
    }

    @Edge(promise = 18, says = "BLED: the TARGET of a figure shared by WAY 0")
    static void targetSharedByWay0(Due due) {
        // 4, 3, 3 by way 0; 4, 4, 2 by way 1
        YearFigures x = of(416, 338, 246);
        x.figure(2, 10);
        Due.report(x, "a2+4;b2+3;c2+3");
        due.is("over", x.bled(2, 0), 0);
        due.is("under", x.bled(2, 1), 0);
        // more than share() takes: 5000 and 4999
        YearFigures most = of(1, 1);
        most.figure(0, 9999);
        Due.report(most, ("a0+999;".repeat(6)).substring(0, 41));
        due.is("5994 is over 5000", most.bled(0, 0), 994);
        due.is("4999 are under", most.bled(0, 1), 4999);
    }

    @Edge(promise = 18, says = "how much at most can bleed from those over to those under that are NEXT to them (each no more than it is over, under).")
    static void bleedsToThoseThatAreNext(Due due) {
        // 10 each: a is 5 over, b 3 over, c 4 under, d 2 under, e and f 1 under each
        YearFigures x = of(10, 10, 10, 10, 10, 10);
        x.figure(0, 60);
        Due.report(x, "a0+15;b0+13;c0+6;d0+8;e0+9;f0+9");
        due.is("over", x.bled(0, 0), 8);
        due.is("under", x.bled(0, 1), 8);
        due.is("none is NEXT", x.bled(0, 2), 0);
        x.next(0, 1, true);
        x.next(2, 3, true);
        due.is("two over and two under", x.bled(0, 2), 0);
        x.next(0, 2, true);
        due.is("no more than c is under", x.bled(0, 2), 4);
        x.next(1, 2, true);
        due.is("c is full", x.bled(0, 2), 4);
        x.next(0, 3, true);
        due.is("b to c, a to c and d: 3, 1 and 2", x.bled(0, 2), 6);
        x.next(1, 4, true);
        due.is("b to e, too", x.bled(0, 2), 7);
        x.next(5, 1, true);
        due.is("all, by none that stands in the way", x.bled(0, 2), 8);
        x.next(0, 2, false);
        due.is("a to d alone: 2, b 3", x.bled(0, 2), 5);
        x.next(0, 3, false);
        due.is("no more than b is over", x.bled(0, 2), 3);
        // a is 5 over and NEXT to c, 2 under; b is 3 over and NEXT to d, 6 under
        YearFigures two = of(10, 10, 10, 10);
        two.figure(0, 40);
        Due.report(two, "a0+15;b0+13;c0+8;d0+4");
        two.next(0, 2, true);
        two.next(1, 3, true);
        due.is("c takes 2 of a's 5, d 3 of b", two.bled(0, 2), 5);
        // those under are NEXT to each other, too: what bleeds goes no farther
        YearFigures far = of(10, 10, 10, 10, 10, 10);
        far.figure(0, 60);
        Due.report(far, "a0+15;b0+9;c0+11;f0+11");
        int[][] next = {{0, 1}, {1, 3}, {3, 4}, {2, 3}, {5, 4}};
        for (int[] pair : next) {
            far.next(pair[0], pair[1], true);
        }
        due.is("1 of a's 5, 1 of c, 1 of f", far.bled(0, 2), 3);
    }

    @Edge(promise = 18, says = "BLED for a told figure, what 0 over, 1 under, 2 what can bleed")
    static void bledWithoutCounties(Due due) {
        YearFigures none = Due.office(0, 6);
        for (int what = 0; what <= 2; what++) {
            due.is("no county, figure 0", none.bled(0, what), 0);
            due.is("no county, figure 5", none.bled(5, what), 0);
        }
        YearFigures one = of(5);
        one.figure(5, 9);
        Due.report(one, "a5+4");
        due.is("over", one.bled(5, 0), 0);
        due.is("under", one.bled(5, 1), 5);
        due.is("what can bleed", one.bled(5, 2), 0);
    }

    @Edge(promise = 18, says = "NONE: no such ones.")
    static void bledOfNoSuchOnes(Due due) {
        YearFigures x = of(5, 5);
        x.figure(0, 10);
        for (int what = 0; what <= 2; what++) {
            due.is("a figure that is not told", x.bled(1, what), -1);
            for (int f : Due.outside(0, 5)) {
                due.is("bled(" + f + ", " + what + ")", x.bled(f, what), -1);
            }
        }
        for (int what : Due.outside(0, 2)) {
            due.is("bled(0, " + what + ")", x.bled(0, what), -1);
        }
    }
}
