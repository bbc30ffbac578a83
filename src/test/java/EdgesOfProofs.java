import java.math.BigInteger;

/** Boundary cases of the game, of goose or crane and of the sleeve (promises 32 to 38). */
final class EdgesOfProofs {
    private static final int NONE = Edge.NONE;
    private static final int HIDDEN = Edge.HIDDEN;

    private EdgesOfProofs() {
    }

    static void all() {
        promise32_refused();
        promise32_game();
        promise32_doubtByThree();
        promise33_refused();
        promise33_rests();
        promise34_refused();
        promise34_twelve();
        promise35_crane();
        promise36_refused();
        promise36_ten();
        promise36_orMore();
        promise37_refused();
        promise37_rising();
        promise38_nothingFits();
        promise38_leastApart();
    }

    private static void promise32_refused() {
        Edge.of(32, "no HOUSE");
        Edge.due("game(0, 0, 0)", new CraneCloth().game(0, 0, 0), HIDDEN);
        Edge.of(32, "out of bounds");
        CraneCloth x = Check.house("b");
        int[][] refused = {{-1, 0, 0}, {2, 0, 0}, {0, -1, 0}, {0, 2, 0}, {0, 0, -1}, {0, 0, 2}};
        for (int[] r : refused) {
            Edge.due("game(" + r[0] + ", " + r[1] + ", " + r[2] + ")", x.game(r[0], r[1], r[2]), HIDDEN);
        }
        for (int far : Edge.FAR) {
            Edge.due("game(" + far + ", 0, 0)", x.game(far, 0, 0), HIDDEN);
            Edge.due("game(0, " + far + ", 0)", x.game(0, far, 0), HIDDEN);
            Edge.due("game(0, 0, " + far + ")", x.game(0, 0, far), HIDDEN);
        }
    }

    private static void promise32_game() {
        Edge.of(32, "he has 6 if he LOOKS and she does not show, 3 if she shows, 2 if neither; she has 5 if she shows and he does "
            + "not LOOK, 1 if both, 0 if he LOOKS alone, 4 if neither");
        CraneCloth x = Check.house("sk0;b");
        int[][] want = {{0, 0, 2, 4}, {0, 1, 3, 5}, {1, 0, 6, 0}, {1, 1, 3, 1}};
        for (int[] w : want) {
            Edge.due("he has at " + w[0] + w[1], x.game(w[0], w[1], 0), w[2]);
            Edge.due("she has at " + w[0] + w[1], x.game(w[0], w[1], 1), w[3]);
        }
        Check.weeks(x, "3");
        Edge.due("when she is gone, too", x.game(1, 0, 0), 6);
    }

    private static void promise32_doubtByThree() {
        Edge.of(32, "if neither, both have less by DOUBT as it is by 3, cut");
        CraneCloth x = Check.house("sw60m60g9t1l20k0;b");
        for (int doubt = 0; doubt <= 20; doubt++) {
            Edge.due("he has with doubt " + doubt, x.game(0, 0, 0), 2 - doubt / 3);
            Edge.due("she has with doubt " + doubt, x.game(0, 0, 1), 4 - doubt / 3);
            Edge.due("he alone with doubt " + doubt, x.game(1, 0, 0), 6);
            Edge.due("both with doubt " + doubt, x.game(1, 1, 1), 1);
            Edge.due("she shows with doubt " + doubt, x.game(0, 1, 1), 5);
            x.week(1);
        }
    }

    private static void promise33_refused() {
        Edge.of(33, "no HOUSE");
        Edge.due("rests(-1)", new CraneCloth().rests(-1), NONE);
        Edge.due("rests(0)", new CraneCloth().rests(0), NONE);
        Edge.of(33, "no such one");
        CraneCloth x = Check.house("b");
        Edge.due("rests(2)", x.rests(2), NONE);
        Edge.due("rests(-2)", x.rests(-2), NONE);
        for (int far : Edge.FAR) {
            Edge.due("rests(" + far + ")", x.rests(far), NONE);
        }
    }

    private static void promise33_rests() {
        Edge.of(33, "10 times x and y by which neither has more by the other of its own: how many, the i-th (rising)");
        // he has 3 either way when she shows; she has more by showing whatever he does
        for (int doubt : new int[] {0, 9}) {
            CraneCloth x = Check.house("sk" + doubt + ";b");
            Edge.due("how many", x.rests(NONE), 2);
            Edge.due("the first", x.rests(0), 1);
            Edge.due("the second", x.rests(1), 11);
        }
    }

    private static void promise34_refused() {
        Edge.of(34, "no HOUSE");
        Edge.due("test(0, true)", new CraneCloth().test(0, true), NONE);
        Edge.of(34, "no such sort");
        CraneCloth x = Check.house("b");
        Edge.due("test(-1, true)", x.test(-1, true), NONE);
        Edge.due("test(3, false)", x.test(3, false), NONE);
        for (int far : Edge.FAR) {
            Edge.due("test(" + far + ", true)", x.test(far, true), NONE);
        }
        Edge.due("no test", x.count(13), 0);
        Edge.due("crane() is as it was", x.crane(), 500000);
    }

    private static void promise34_twelve() {
        Edge.of(34, "TESTS (12 at most) of a cloth");
        CraneCloth x = Check.house("b");
        for (int i = 1; i <= 12; i++) {
            Edge.due("test " + i, x.test(i % 3, i % 2 == 0), i);
        }
        Edge.of(34, "there are 12");
        int before = x.crane();
        Edge.due("a thirteenth", x.test(0, true), NONE);
        Edge.due("twelve are there", x.count(13), 12);
        Edge.due("crane() is as it was", x.crane(), before);
        Check.tell(x, 0, "b");
        Edge.due("the first in another house", x.test(0, true), 1);
    }

    private static void promise35_crane() {
        Edge.of(35, "no HOUSE");
        Edge.due("crane()", new CraneCloth().crane(), NONE);
        Edge.of(35, "by a CRANE so in 9, 8, 6 of ten cases, by a GOOSE in 2, 3, 5");
        int[][] one = {{818181, 111111}, {727272, 222222}, {545454, 444444}};
        for (int sort = 0; sort < 3; sort++) {
            for (int is = 0; is < 2; is++) {
                CraneCloth x = Check.house("b");
                x.test(sort, is == 0);
                Edge.due("sort " + sort + " " + (is == 0), x.crane(), one[sort][is]);
            }
        }
        Edge.of(35, "of 10 to the 6 parts (both alike likely at first; whole fractions of the products, cut)");
        Edge.due("at first", Check.house("b").crane(), 500000);
        int[] crane = {9, 8, 6};
        int[] goose = {2, 3, 5};
        // all ways of one sort and one answer twelve times, and mixed ones
        for (int way = 0; way < 36; way++) {
            CraneCloth x = Check.house("b");
            BigInteger ofCrane = BigInteger.ONE;
            BigInteger ofGoose = BigInteger.ONE;
            for (int i = 0; i < 12; i++) {
                int sort = way < 6 ? way / 2 : (way + i * (way % 5 + 1)) % 3;
                boolean is = way < 6 ? way % 2 == 0 : (way * 7 + i * i) % 4 < 2;
                x.test(sort, is);
                ofCrane = ofCrane.multiply(BigInteger.valueOf(is ? crane[sort] : 10 - crane[sort]));
                ofGoose = ofGoose.multiply(BigInteger.valueOf(is ? goose[sort] : 10 - goose[sort]));
                BigInteger parts = ofCrane.multiply(BigInteger.valueOf(1000000)).divide(ofCrane.add(ofGoose));
                Edge.due("way " + way + ", " + (i + 1) + " tests", x.crane(), parts.intValueExact());
            }
        }
    }

    private static void promise36_refused() {
        Edge.of(36, "no HOUSE");
        Edge.due("sign(0, 0, true)", new CraneCloth().sign(0, 0, true), NONE);
        Edge.of(36, "out of bounds");
        CraneCloth x = Check.house("b");
        int[][] refused = {{-1, 0}, {3, 0}, {0, -1}, {0, 100}, {2, 100}};
        for (int[] r : refused) {
            Edge.due("sign(" + r[0] + ", " + r[1] + ", true)", x.sign(r[0], r[1], true), NONE);
        }
        for (int far : Edge.FAR) {
            Edge.due("sign(" + far + ", 0, true)", x.sign(far, 0, true), NONE);
            Edge.due("sign(0, " + far + ", true)", x.sign(0, far, true), NONE);
        }
        Edge.due("no sign", x.count(14), 0);
    }

    private static void promise36_ten() {
        Edge.of(36, "SIGNS (10 at most) of the BOLT of which the sleeve was");
        CraneCloth x = Check.house("b");
        Check.weeks(x, "1");
        for (int i = 1; i <= 9; i++) {
            Edge.due("sign " + i, x.sign(i % 3, 0, true), i);
        }
        Edge.due("the tenth", x.sign(0, 99, false), 10);
        Edge.of(36, "there are ten");
        Edge.due("an eleventh", x.sign(0, 99, true), NONE);
        Edge.due("ten are there", x.count(14), 10);
        Edge.due("the bolt fits still", x.from(NONE), 1);
        Check.tell(x, 0, "b");
        Edge.due("the first in another house", x.sign(0, 0, true), 1);
    }

    /** Bolts of weeks 0, 1, 3, 4, with 30, 25, 23, 18 down ahead of them, and 8 taken by each. */
    private static CraneCloth four() {
        CraneCloth x = Check.house("sl20;b");
        Check.weeks(x, "11211");
        return x;
    }

    private static void fits(int sort, int a, boolean is, int want) {
        CraneCloth x = four();
        x.sign(sort, a, is);
        Edge.due("from(NONE) by sign(" + sort + ", " + a + ", " + is + ")", x.from(NONE), want);
    }

    private static void promise36_orMore() {
        Edge.of(36, "sort 0 its WEEK, 1 DOWN ahead of it, 2 what it TOOK: a (0 .. 99) or more, or not");
        fits(0, 0, true, 4);
        fits(0, 0, false, 0);
        fits(0, 99, true, 0);
        fits(0, 99, false, 4);
        fits(0, 3, true, 2);
        fits(0, 4, true, 1);
        fits(0, 5, true, 0);
        fits(0, 3, false, 2);
        fits(1, 25, true, 2);
        fits(1, 26, true, 1);
        fits(1, 25, false, 2);
        fits(1, 30, true, 1);
        fits(1, 31, true, 0);
        fits(2, 8, true, 4);
        fits(2, 9, true, 0);
        fits(2, 8, false, 0);
        fits(2, 9, false, 4);
        CraneCloth late = Edge.inWeek(120, "b");
        Check.weeks(late, "1");
        late.sign(0, 99, true);
        Edge.due("week 120 is 99 or more", late.from(0), 0);
    }

    private static void promise37_refused() {
        Edge.of(37, "no HOUSE");
        Edge.due("from(-1)", new CraneCloth().from(-1), NONE);
        Edge.due("from(0)", new CraneCloth().from(0), NONE);
        Edge.of(37, "no such one");
        CraneCloth x = four();
        Edge.due("from(4) of four", x.from(4), NONE);
        Edge.due("from(-2)", x.from(-2), NONE);
        for (int far : Edge.FAR) {
            Edge.due("from(" + far + ")", x.from(far), NONE);
        }
        CraneCloth empty = Check.house("b");
        Edge.due("how many of an empty book", empty.from(NONE), 0);
        Edge.due("the first of an empty book", empty.from(0), NONE);
    }

    private static void promise37_rising() {
        Edge.of(37, "BOLTS of THE BOOK (by numbers from 0, the earliest first) by which all SIGNS are so: how many, the i-th (rising)");
        CraneCloth x = four();
        for (int i = 0; i < 4; i++) {
            Edge.due("without signs", x.from(i), i);
        }
        x.sign(0, 1, true);
        x.sign(1, 20, true);
        Edge.due("how many", x.from(NONE), 2);
        Edge.due("the first", x.from(0), 1);
        Edge.due("the second", x.from(1), 2);
        Edge.due("a third", x.from(2), NONE);
        x.sign(2, 9, true);
        Edge.due("none", x.from(NONE), 0);
        Edge.due("the first of none", x.from(0), NONE);
        // bolts of weeks 0 to 3, with 40, 35, 31, 28 down ahead of them, and 8, 7, 6, 5 taken by them
        CraneCloth sorts = Edge.byLaw("sw40g3l20;b", "y:8-n");
        Check.weeks(sorts, "1111");
        int[][] signs = {{2, 6, 1}, {0, 1, 1}, {1, 35, 0}, {2, 7, 0}, {1, 30, 1}, {0, 2, 0}};
        int[] left = {3, 2, 1, 1, 1, 0};
        for (int i = 0; i < signs.length; i++) {
            sorts.sign(signs[i][0], signs[i][1], signs[i][2] == 1);
            Edge.due("how many by " + (i + 1) + " signs of several sorts", sorts.from(NONE), left[i]);
            Edge.due("the first of them", sorts.from(0), new int[] {0, 1, 2, 2, 2, NONE}[i]);
        }
        CraneCloth full = Check.house("sw60m60g9t1l20;b");
        full.iron(true);
        for (int i = 0; i < 60; i++) {
            full.week(1);
        }
        Edge.due("sixty", full.from(NONE), 60);
        Edge.due("the last", full.from(59), 59);
        Edge.due("one more", full.from(60), NONE);
        full.sign(0, 32, true);
        Edge.due("the last 28", full.from(NONE), 28);
        Edge.due("the first of them", full.from(0), 32);
        Edge.due("the last of them", full.from(27), 59);
    }

    private static void promise38_nothingFits() {
        Edge.of(38, "no HOUSE");
        Edge.due("ask()", new CraneCloth().ask(), NONE);
        Edge.of(38, "nothing fits");
        Edge.due("an empty book", Check.house("b").ask(), NONE);
        CraneCloth x = four();
        x.sign(0, 5, true);
        Edge.due("no bolt by the signs", x.ask(), NONE);
    }

    private static void promise38_leastApart() {
        Edge.of(38, "the sort and a (100 times the sort, and a 0 .. 99) by which yes and no among these are least apart in number "
            + "(of several the least)");
        CraneCloth one = Check.house("b");
        Check.weeks(one, "1");
        Edge.due("one bolt: all alike", one.ask(), 0);
        CraneCloth x = four();
        Edge.due("two and two by week 2", x.ask(), 2);
        x.sign(0, 1, true);
        Edge.due("two and one by week 2", x.ask(), 2);
        CraneCloth two = Check.house("sl20;b");
        Check.weeks(two, "11");
        Edge.due("weeks 0 and 1", two.ask(), 1);
        // weeks from 99 on are alike for the sort of weeks
        CraneCloth late = Edge.inWeek(99, "sm60g1l20;b");
        Check.weeks(late, "11");
        Edge.due("weeks 99 and 100, down 60 and 53", late.ask(), 154);
        CraneCloth before = Edge.inWeek(98, "sm60g1l20;b");
        Check.weeks(before, "11");
        Edge.due("weeks 98 and 99", before.ask(), 99);
        CraneCloth took = Edge.inWeek(100, "sm60w60g9l20;b");
        Check.tell(took, 1, "y:y-99");
        took.law(0);
        Check.weeks(took, "11");
        Edge.due("1 and 2 taken", took.ask(), 202);
        CraneCloth nothing = Edge.inWeek(100, "sm60w60g9l20;b");
        Check.tell(nothing, 1, "y:n");
        nothing.law(0);
        Check.weeks(nothing, "11");
        Edge.due("0 and 1 taken", nothing.ask(), 201);
        CraneCloth lean = Edge.inWeek(100, "sm60w60g0l20;b");
        Check.tell(lean, 1, "y:n=0?59;y:0");
        lean.law(0);
        Check.weeks(lean, "11");
        Edge.due("60 and 1 down", lean.ask(), 102);
        CraneCloth alike = Edge.inWeek(100, "sm60w60g9l20;b");
        Check.weeks(alike, "11");
        Edge.due("alike in all", alike.ask(), 0);
        CraneCloth sixty = Edge.inWeek(99, "sw60m60g9t1l20;b");
        sixty.iron(true);
        for (int i = 0; i < 60; i++) {
            sixty.week(1);
        }
        Edge.due("sixty fit", sixty.from(NONE), 60);
        Edge.due("sixty alike in all", sixty.ask(), 0);
    }
}
