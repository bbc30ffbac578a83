/** Boundary cases of weeks to come and of weaving (promises 24, 25, 26, 39, 41, 43, 44). */
final class EdgesOfWeaving {
    private static final int NONE = Edge.NONE;
    /** Down for many bolts, and a doubt that is far from enough. */
    private static final String RICH = "sw60m60g9t1l20";

    private EdgesOfWeaving() {
    }

    static void all() {
        promise24_refused();
        promise24_bounds();
        promise24_rowsThatCanBe();
        promise24_theLeast();
        promise24_boltsThen();
        promise24_behind999();
        promise25_stands();
        promise25_tillSheCant();
        promise26_refused();
        promise26_thirtyWeeks();
        promise26_notGone();
        promise26_fullBook();
        promise26_behind999();
        promise39_refused();
        promise39_bounds();
        promise39_cut();
        promise41_refused();
        promise41_weeks();
        promise43_thin();
        promise44_nobody();
        promise44_rounded();
        promise44_neverGrows();
    }

    private static CraneCloth wovenSixtyLess(int less) {
        CraneCloth x = Check.house(RICH + "p0;b");
        x.iron(true);
        for (int i = 0; i < 60 - less; i++) {
            x.week(1);
        }
        return x;
    }

    private static void row(CraneCloth x, int n, int v, int row, int worth) {
        Edge.due("weaving(" + n + ", " + v + ", 0)", x.weaving(n, v, 0), row);
        Edge.due("weaving(" + n + ", " + v + ", 1)", x.weaving(n, v, 1), worth);
    }

    private static void promise24_refused() {
        Edge.of(24, "no HOUSE");
        Edge.due("weaving(1, 0, 0)", new CraneCloth().weaving(1, 0, 0), NONE);
        Edge.of(24, "out of bounds");
        CraneCloth x = Check.house("b");
        int[][] refused = {{0, 20, 0}, {-1, 20, 0}, {9, 20, 0}, {1, -1, 0}, {1, 61, 0}, {1, 20, -1}, {1, 20, 2}};
        for (int[] r : refused) {
            Edge.due("weaving(" + r[0] + ", " + r[1] + ", " + r[2] + ")", x.weaving(r[0], r[1], r[2]), NONE);
        }
        for (int far : Edge.FAR) {
            Edge.due("weaving(" + far + ", 20, 0)", x.weaving(far, 20, 0), NONE);
            Edge.due("weaving(1, " + far + ", 0)", x.weaving(1, far, 0), NONE);
            Edge.due("weaving(1, 20, " + far + ")", x.weaving(1, 20, far), NONE);
        }
    }

    private static void promise24_bounds() {
        Edge.of(24, "WEAVING for n (1 .. 8) WEEKS and a price v (0 .. 60)");
        CraneCloth x = Check.house(RICH + "p9k0;b");
        row(x, 1, 0, 2, 9);
        row(x, 1, 60, 1, 60);
        row(x, 8, 0, 22222222, 72);
        row(x, 8, 60, 11111111, 480);
        row(x, 8, 9, 11111111, 72);
        row(x, 8, 8, 22222222, 72);
        String before = Edge.state(x);
        x.weaving(8, 30, 0);
        Edge.same("apart", Edge.state(x), before);
    }

    private static void promise24_rowsThatCanBe() {
        Edge.of(24, "rows of DEEDS 0 .. 2 that can be (digits, the first the highest)");
        row(Check.house("sw0g0;b"), 3, 60, 222, 9);
        row(Check.house("sw8p0;b"), 2, 20, 1, 20);
        row(Check.house("sw8p1;b"), 2, 20, 21, 21);
        row(Check.house("sw8g0p0;b"), 8, 60, 0, 0);
        row(Check.house("sw9g0p0;b"), 2, 60, 1, 60);
        // with a doubt of 2 she is gone: a rest between keeps her for one bolt more
        row(Check.house(RICH.replace("l20", "l2") + "k0p0;b"), 3, 10, 11, 20);
        row(Check.house(RICH.replace("l20", "l2") + "k0p0;b"), 4, 10, 1011, 30);
        CraneCloth gone = Check.house(RICH + ";b");
        Check.weeks(gone, "3");
        row(gone, 4, 60, 2222, 12);
        row(wovenSixtyLess(1), 2, 60, 1, 3600);
        row(wovenSixtyLess(0), 2, 60, 0, 3600);
        row(Edge.byLaw("sw20g0p1;b", "y:m<2?60;y:1"), 4, 5, 2211, 12);
    }

    private static void promise24_theLeast() {
        Edge.of(24, "(nothing SOLD, PAID; of several the least)");
        row(Check.house("sp0;b"), 8, 0, 0, 0);
        row(Check.house("sp3;b"), 2, 3, 11, 6);
        // a bolt in the first or in the second week is alike: the later one is the least row
        row(Check.house("sw9g0p0;b"), 3, 7, 1, 7);
        row(Check.house("sw9g0p1;b"), 3, 7, 122, 9);
        CraneCloth rich = Check.house("sp3;b");
        Check.riches(rich, 9998);
        row(rich, 2, 0, 2, 9999);
        CraneCloth full = Check.house("sp9;b");
        Check.riches(full, 9999);
        row(full, 8, 0, 0, 9999);
        row(full, 1, 1, 1, 10000);
    }

    private static void promise24_boltsThen() {
        Edge.of(24, "v for each BOLT that there is then");
        CraneCloth x = Check.house(RICH + "p0;b");
        Check.weeks(x, "1111");
        row(x, 1, 10, 1, 50);
        x.cut();
        row(x, 1, 10, 1, 40);
        x.sell(0, 0);
        row(x, 1, 10, 1, 50);
        Check.weeks(x, "3");
        row(x, 1, 10, 0, 40);
    }

    private static void promise24_behind999() {
        Edge.of(24, "WEEKS go on behind 999");
        CraneCloth x = Edge.inWeek(999, "sm60p1;b");
        row(x, 3, 0, 222, 3);
        row(x, 1, 9, 1, 9);
        Check.tell(x, 1, "y:y>1000?1;y:60");
        x.law(0);
        row(x, 3, 9, 221, 11);
    }

    private static void promise25_stands() {
        Edge.of(25, "no HOUSE");
        Edge.due("stands()", new CraneCloth().stands(), NONE);
        Edge.of(25, "how many BOLTS she can weave at most, one each WEEK from now on without a break (60 at most)");
        CraneCloth x = Check.house(RICH + ";b");
        x.iron(true);
        Edge.due("sixty", x.stands(), 60);
        Check.weeks(x, "1");
        Edge.due("59 that the book has room for", x.stands(), 59);
        Edge.due("one", wovenSixtyLess(1).stands(), 1);
        Edge.due("none", wovenSixtyLess(0).stands(), 0);
        Edge.of(25, "WEEKS go on behind 999");
        CraneCloth late = Edge.inWeek(999, RICH + ";b");
        Edge.due("from week 999", late.stands(), 20);
        Check.tell(late, 1, "y:y<1002?1;y:60");
        late.law(0);
        Edge.due("in 999, 1000 and 1001", late.stands(), 3);
    }

    private static void promise25_tillSheCant() {
        Edge.of(25, "till she can't or is GONE");
        Edge.due("8 of 8", Check.house("sw8;b").stands(), 0);
        Edge.due("9 of 8", Check.house("sw9;b").stands(), 1);
        Edge.due("16 of 8, no growth", Check.house("sw16g0;b").stands(), 1);
        Edge.due("17 of 8, no growth", Check.house("sw17g0;b").stands(), 2);
        Edge.due("gone with the first", Check.house(RICH.replace("l20", "l3") + "k2;b").stands(), 1);
        Edge.due("gone with the second", Check.house(RICH.replace("l20", "l4") + "k2;b").stands(), 2);
        Edge.due("doubt is more than enough", Check.house(RICH.replace("l20", "l1") + "k9;b").stands(), 1);
        CraneCloth gone = Check.house(RICH + ";b");
        Check.weeks(gone, "3");
        Edge.due("gone", gone.stands(), 0);
        Edge.due("by a law of how many she wove", Edge.byLaw("sw30g0;b", "y:n*10").stands(), 2);
    }

    private static void promise26_refused() {
        Edge.of(26, "no HOUSE");
        Edge.due("soonest(1)", new CraneCloth().soonest(1), NONE);
        Edge.of(26, "out of bounds");
        CraneCloth x = Check.house(RICH + ";b");
        Edge.due("soonest(0)", x.soonest(0), NONE);
        Edge.due("soonest(-1)", x.soonest(-1), NONE);
        Edge.due("soonest(10)", x.soonest(10), NONE);
        for (int far : Edge.FAR) {
            Edge.due("soonest(" + far + ")", x.soonest(far), NONE);
        }
        Edge.of(26, "SOONEST for b (1 .. 9) BOLTS more");
        for (int b = 1; b <= 9; b++) {
            Edge.due("soonest(" + b + ")", x.soonest(b), b);
        }
        Check.weeks(x, "11");
        Edge.due("more than there are", x.soonest(9), 9);
    }

    private static void promise26_thirtyWeeks() {
        Edge.of(26, "the fewest WEEKS (30 at most) of DEEDS 0 and 1");
        Edge.due("29 weeks", Edge.byLaw("sw0m60g1;b", "y:27").soonest(1), 29);
        Edge.due("30 weeks", Edge.byLaw("sw0m60g1;b", "y:28").soonest(1), 30);
        Edge.due("two bolts in 30 weeks", Check.house("sw0m60g1t14;b").soonest(2), 30);
        Edge.of(26, "not within 30");
        Edge.due("31 weeks", Edge.byLaw("sw0m60g1;b", "y:29").soonest(1), NONE);
        Edge.due("two bolts in 31 weeks", Check.house("sw1m60g1t15;b").soonest(2), NONE);
        Edge.due("it never grows", Check.house("sw8g0;b").soonest(1), NONE);
        Edge.due("the most is too little", Check.house("sw8m8;b").soonest(1), NONE);
        // a rest ahead of the bolts makes doubt less, the bolts leave down that differs
        CraneCloth lean = Edge.byLaw("sw20m20g3t5k2l9;b", "y:n=0?5;y:w=18&y=2&k=2?5;y:60");
        Edge.due("with less down, not with more", lean.soonest(2), 3);
    }

    private static void promise26_notGone() {
        Edge.of(26, "behind which so many are woven and she is not GONE");
        Edge.due("8 of 9", Check.house(RICH.replace("l20", "l9") + "k0;b").soonest(8), 8);
        Edge.due("9 of 9: a rest between", Check.house(RICH.replace("l20", "l9") + "k0;b").soonest(9), 10);
        Edge.due("never below 1", Check.house("sk0l1;b").soonest(1), NONE);
        CraneCloth iron = Check.house("sk0l1;b");
        iron.iron(true);
        Edge.due("behind iron", iron.soonest(1), 1);
        Edge.due("9 of 10: a rest ahead", Check.house("sk9l10;b").soonest(1), 2);
        Edge.due("as much already: two rests ahead", Check.house("sk5l5;b").soonest(1), 3);
        Edge.due("more already", Check.house("sk6l5;b").soonest(1), NONE);
        CraneCloth gone = Check.house("b");
        Check.weeks(gone, "3");
        Edge.due("gone", gone.soonest(1), NONE);
    }

    private static void promise26_fullBook() {
        Edge.of(26, "60 at most: then she can't weave");
        CraneCloth x = wovenSixtyLess(2);
        Edge.due("two of two", x.soonest(2), 2);
        Edge.due("three of two", x.soonest(3), NONE);
        Edge.due("one of none", wovenSixtyLess(0).soonest(1), NONE);
    }

    private static void promise26_behind999() {
        Edge.of(26, "WEEKS go on behind 999");
        CraneCloth x = Edge.inWeek(999, RICH + ";b");
        Edge.due("from week 999", x.soonest(9), 9);
        Check.tell(x, 1, "y:y>1000?1;y:60");
        x.law(0);
        Edge.due("in week 1001", x.soonest(1), 3);
    }

    private static void promise39_refused() {
        Edge.of(39, "no HOUSE");
        Edge.due("odds(0, 0)", new CraneCloth().odds(0, 0), NONE);
        Edge.of(39, "out of bounds");
        CraneCloth x = Check.house("b");
        int[][] refused = {{-1, 5}, {31, 5}, {5, -1}, {5, 101}};
        for (int[] r : refused) {
            Edge.due("odds(" + r[0] + ", " + r[1] + ")", x.odds(r[0], r[1]), NONE);
        }
        for (int far : Edge.FAR) {
            Edge.due("odds(" + far + ", 5)", x.odds(far, 5), NONE);
            Edge.due("odds(5, " + far + ")", x.odds(5, far), NONE);
        }
        Check.weeks(x, "3");
        Edge.due("odds(31, 5) when she is gone", x.odds(31, 5), NONE);
    }

    private static void promise39_bounds() {
        Edge.of(39, "ODDS for n (0 .. 30) WEEKS, a chance (0 .. 100)");
        CraneCloth x = Check.house("b");
        Edge.due("odds(0, 0)", x.odds(0, 0), 1000000000);
        Edge.due("odds(0, 100)", x.odds(0, 100), 1000000000);
        Edge.due("odds(30, 0)", x.odds(30, 0), 1000000000);
        Edge.due("odds(1, 100)", x.odds(1, 100), 0);
        Edge.due("odds(30, 100)", x.odds(30, 100), 0);
        Edge.due("odds(1, 99)", x.odds(1, 99), 10000000);
        Edge.due("odds(1, 1)", x.odds(1, 1), 990000000);
        Edge.due("odds(30, 50) is little", x.odds(30, 50) < 10, true);
        Edge.of(39, "of 10 to the 9 parts those by which she is not GONE");
        CraneCloth gone = Check.house("b");
        Check.weeks(gone, "3");
        Edge.due("gone: odds(0, 0)", gone.odds(0, 0), 0);
        Edge.due("gone: odds(30, 0)", gone.odds(30, 0), 0);
    }

    private static void promise39_cut() {
        Edge.of(39, "each WEEK he LOOKS by chance (100ths of what is left, cut)");
        CraneCloth x = Check.house("b");
        // 1 of 100 each week: 990000000, 980100000, 970299000, 960596010, then 9605960.1 is cut
        Edge.due("odds(4, 1)", x.odds(4, 1), 960596010);
        Edge.due("odds(5, 1)", x.odds(5, 1), 950990050);
        // 10000000, 100000, 1000, 10, then 9.9 is cut
        Edge.due("odds(4, 99)", x.odds(4, 99), 10);
        Edge.due("odds(5, 99)", x.odds(5, 99), 1);
        Edge.due("odds(30, 99)", x.odds(30, 99), 1);
    }

    private static void promise41_refused() {
        Edge.of(41, "no HOUSE");
        Edge.due("bears(0)", new CraneCloth().bears(0), NONE);
        Edge.of(41, "out of bounds");
        CraneCloth x = Check.house("sw60m60;b");
        Edge.due("bears(-1)", x.bears(-1), NONE);
        Edge.due("bears(61)", x.bears(61), NONE);
        for (int far : Edge.FAR) {
            Edge.due("bears(" + far + ")", x.bears(far), NONE);
        }
        Edge.due("bears(60) is within", x.bears(60), 0);
        Edge.of(41, "not within 60");
        Edge.due("more than the most", Check.house("sm40;b").bears(41), NONE);
        Edge.due("it never grows", Check.house("sg0;b").bears(31), NONE);
        CraneCloth gone = Check.house("b");
        Check.weeks(gone, "3");
        Edge.due("gone", gone.bears(31), NONE);
        Edge.due("gone, but it is there", gone.bears(30), 0);
        Edge.due("she leaves while she rests", Check.house("sk9l5;b").bears(31), NONE);
    }

    private static void promise41_weeks() {
        Edge.of(41, "BEARS: in how many WEEKS (0 .. 60) of rest DOWN is d (0 .. 60) or more first");
        CraneCloth x = Check.house("sw0m60g1;b");
        for (int d : new int[] {0, 1, 2, 30, 59, 60}) {
            Edge.due("bears(" + d + ")", x.bears(d), d);
        }
        CraneCloth three = Check.house("sw20m30g4;b");
        int[][] want = {{0, 0}, {20, 0}, {21, 1}, {24, 1}, {25, 2}, {28, 2}, {29, 3}, {30, 3}};
        for (int[] w : want) {
            Edge.due("bears(" + w[0] + ") from 20 by 4", three.bears(w[0]), w[1]);
        }
        Edge.of(41, "WEEKS go on behind 999");
        CraneCloth late = Edge.inWeek(998, "sm60;b");
        Check.weeks(late, "1");
        Edge.due("it is 55 in week 999", late.rule(0), 55);
        Edge.due("bears(60) from week 999", late.bears(60), 2);
    }

    private static void promise43_thin() {
        Edge.of(43, "no HOUSE");
        Edge.due("thin()", new CraneCloth().thin(), NONE);
        Edge.of(43, "nothing was woven");
        CraneCloth x = Check.house("sw20m30g4t8l20;b");
        Edge.due("at first", x.thin(), NONE);
        Check.weeks(x, "2");
        Edge.due("behind a field", x.thin(), NONE);
        Edge.of(43, "THIN: the WEEK of THE BOOK ahead of which DOWN was least (of several the earliest)");
        Check.weeks(x, "1");
        Edge.due("the only one", x.thin(), 1);
        // 24, then 20, 24 behind two fields, 20 again
        Check.weeks(x, "1");
        Edge.due("the later one", x.thin(), 2);
        Check.weeks(x, "2211");
        Edge.due("20 again", x.book(3, 1), 20);
        Edge.due("the earliest of two", x.thin(), 2);
        x.undo();
        x.undo();
        x.undo();
        x.undo();
        x.undo();
        Edge.due("undone", x.thin(), 1);
        x.undo();
        Edge.due("all undone", x.thin(), NONE);
    }

    private static void promise44_nobody() {
        Edge.of(44, "no HOUSE");
        Edge.due("weaves()", new CraneCloth().weaves(), NONE);
        Edge.of(44, "nobody WANTS");
        CraneCloth x = Check.house("bp60n1;bp9n1;bp10n1");
        Check.weeks(x, "111");
        Edge.due("60 of the first", x.weaves(), 1);
        x.sell(0, 0);
        Edge.due("10 of the third", x.weaves(), 1);
        x.sell(2, 0);
        Edge.due("9 of the second", x.weaves(), 0);
        x.sell(1, 0);
        Edge.due("nobody", x.weaves(), NONE);
        x.undo();
        Edge.due("undone", x.weaves(), 0);
    }

    private static void promise44_rounded() {
        Edge.of(44, "is more than the FIELD pays in as many WEEKS as the DOWN that it TAKES needs to grow again (rounded up");
        int[][] cases = {
            // takes, grows, weeks
            {8, 3, 3}, {9, 3, 3}, {10, 3, 4}, {1, 9, 1}, {9, 9, 1}, {10, 9, 2}, {20, 1, 20}, {20, 9, 3}};
        for (int[] c : cases) {
            String rules = "st" + c[0] + "g" + c[1] + "p2;bp";
            Edge.due(rules + " as much", Check.house(rules + 2 * c[2]).weaves(), 0);
            Edge.due(rules + " one more", Check.house(rules + (2 * c[2] + 1)).weaves(), 1);
        }
        Edge.due("a bolt that takes nothing, for nothing", Edge.byLaw("bp0", "y:0").weaves(), 0);
        Edge.due("a bolt that takes nothing, for 1", Edge.byLaw("bp1", "y:0").weaves(), 1);
        Edge.due("60 by 1 is sixty weeks: 60", Edge.byLaw("sg1p1;bp60", "y:60").weaves(), 0);
        Edge.due("59 by 1 is 59 weeks: 60", Edge.byLaw("sg1p1;bp60", "y:59").weaves(), 1);
        Edge.due("a field that pays nothing, for 1", Check.house("sp0;bp1").weaves(), 1);
        Edge.due("a field that pays nothing, for nothing", Check.house("sp0;bp0").weaves(), 0);
    }

    private static void promise44_neverGrows() {
        Edge.of(44, "if it never grows, one WEEK)");
        Edge.due("3 of 3", Check.house("sg0p3;bp3").weaves(), 0);
        Edge.due("4 of 3", Check.house("sg0p3;bp4").weaves(), 1);
        Edge.due("0 of 0", Check.house("sg0p0;bp0").weaves(), 0);
        Edge.due("20 down, 9 of 9", Check.house("sg0t20p9;bp9").weaves(), 0);
        Edge.due("20 down, 10 of 9", Check.house("sg0t20p9;bp10").weaves(), 1);
    }
}
