import java.math.BigInteger;

/** Boundary cases of weeks, lives, the log and the book (promises 11, 17, 19, 20). */
final class EdgesOfWeeks {
    private static final int NONE = Edge.NONE;

    private EdgesOfWeeks() {
    }

    static void all() {
        promise11_refused();
        promise11_moreDownThanTakes();
        promise11_notGone();
        promise11_sixtyBolts();
        promise11_doubtOneMore();
        promise11_moneyOfField();
        promise11_doubtOneLess();
        promise11_whenSheIsGone();
        promise11_downGrows();
        promise11_whoIsGoneStaysSo();
        promise11_999();
        promise17_refused();
        promise17_beyond999();
        promise17_lazy();
        promise17_weavesIfSheCan();
        promise17_soldIfWanted();
        promise17_goingRound();
        promise17_oneAct();
        promise19_refused();
        promise19_latestSixty();
        promise19_then();
        promise20_refused();
        promise20_aheadOfIt();
    }

    private static void promise11_refused() {
        Edge.of(11, "no HOUSE");
        for (int deed = 0; deed <= 3; deed++) {
            Edge.due("week(" + deed + ")", new CraneCloth().week(deed), NONE);
        }
        Edge.of(11, "no such DEED");
        CraneCloth x = Check.house("b");
        Edge.due("week(-1)", x.week(-1), NONE);
        Edge.due("week(4)", x.week(4), NONE);
        for (int far : Edge.FAR) {
            Edge.due("week(" + far + ")", x.week(far), NONE);
        }
        Edge.due("no week went by", x.count(6), 0);
        Edge.due("no act", x.count(17), 0);
        Edge.of(11, "A WEEK with a DEED: the WEEK.");
        for (int deed = 0; deed <= 3; deed++) {
            Edge.due("week(" + deed + ")", x.week(deed), deed + 1);
        }
        Edge.of(11, "A WEEK (0 at first)");
        Edge.due("count(6)", Check.house("b").count(6), 0);
    }

    private static void promise11_moreDownThanTakes() {
        Edge.of(11, "has more DOWN than a BOLT TAKES");
        Edge.due("7 of 8", Check.house("sw7;b").week(1), NONE);
        Edge.due("8 of 8", Check.house("sw8;b").week(1), NONE);
        Edge.due("9 of 8", Check.house("sw9;b").week(1), 1);
        Edge.due("60 of 60 by a law", Edge.byLaw("sw60m60;b", "y:99").week(1), NONE);
        Edge.due("60 of 59 by a law", Edge.byLaw("sw60m60;b", "y:59").week(1), 1);
        Edge.due("0 of 0 by a law", Edge.byLaw("sw0;b", "y:0-9").week(1), NONE);
        Edge.due("1 of 0 by a law", Edge.byLaw("sw1;b", "y:0-9").week(1), 1);
        Edge.of(11, "it can't be");
        CraneCloth x = Check.house("sw8g0;b");
        String before = Edge.state(x);
        Edge.due("week(1) with 8 of 8", x.week(1), NONE);
        Edge.same("nothing changes", Edge.state(x), before);
    }

    private static void promise11_notGone() {
        Edge.of(11, "1 she weaves (if she is not GONE");
        CraneCloth x = Check.house("b");
        Check.weeks(x, "13");
        String before = Edge.state(x);
        Edge.due("week(1)", x.week(1), NONE);
        Edge.of(11, "3 he LOOKS (if she is not GONE)");
        Edge.due("week(3)", x.week(3), NONE);
        Edge.same("nothing changes", Edge.state(x), before);
        Edge.due("week(0) can be", x.week(0), 3);
        Edge.due("week(2) can be", x.week(2), 4);
        x.undo();
        x.undo();
        x.undo();
        Edge.due("the look undone, week(1) can be", x.week(1), 2);
    }

    private static void promise11_sixtyBolts() {
        Edge.of(11, "60 at most: then she can't weave");
        CraneCloth x = Check.house("sw60m60g9t1l20;bn9");
        x.iron(true);
        for (int i = 1; i <= 60; i++) {
            Edge.due("bolt " + i, x.week(1), i);
        }
        Edge.due("sixty in the book", x.count(15), 60);
        Edge.due("a bolt more", x.week(1), NONE);
        x.sell(0, 0);
        x.cut();
        Edge.due("a bolt more behind a sale and a cut", x.week(1), NONE);
        Edge.due("58 bolts", x.count(8), 58);
        Edge.due("rest can be", x.week(0), 61);
        for (int i = 0; i < 4; i++) {
            x.undo();
        }
        Edge.due("59 in the book", x.count(15), 59);
        Edge.due("the sixtieth again", x.week(1), 60);
        Edge.due("and no more", x.week(1), NONE);
        Check.tell(x, 0, "b");
        Edge.due("in another house she can", x.week(1), 1);
    }

    private static void promise11_doubtOneMore() {
        Edge.of(11, "DOUBT one more, unless the door is of IRON");
        CraneCloth x = Check.house("sk0;b");
        Check.weeks(x, "1");
        Edge.due("one more", x.rule(5), 1);
        x.iron(true);
        Check.weeks(x, "1");
        Edge.due("the door is of iron", x.rule(5), 1);
        x.iron(false);
        Check.weeks(x, "1");
        Edge.due("not of iron any more", x.rule(5), 2);
        Check.weeks(x, "2");
        Edge.of(11, "(Weaving and ploughing leave MONEY, DOUBT as said");
        Edge.due("doubt behind the field", x.rule(5), 2);
        Edge.due("money of the field alone", x.count(7), 3);
        Check.weeks(x, "3");
        Edge.due("doubt behind a look", x.rule(5), 2);
        Edge.due("money behind a look", x.count(7), 3);
    }

    private static void promise11_moneyOfField() {
        Edge.of(11, "(9,999 at most: more is lost)");
        CraneCloth x = Check.house("sp9;b");
        Check.riches(x, 9989);
        Check.weeks(x, "2");
        Edge.due("9,989 and 9", x.count(7), 9998);
        Check.weeks(x, "2");
        Edge.due("9,998 and 9", x.count(7), 9999);
        Edge.due("9,999 and 9: the week goes by", x.week(2), 3);
        Edge.due("9,999", x.count(7), 9999);
        Edge.due("the log has it", x.log(0, 1), 9999);
        x.undo();
        x.undo();
        Edge.due("undone", x.count(7), 9998);
        CraneCloth y = Check.house("sp9;b");
        Check.riches(y, 9990);
        Check.weeks(y, "2");
        Edge.due("9,990 and 9", y.count(7), 9999);
        CraneCloth none = Check.house("sp0;b");
        Check.weeks(none, "2");
        Edge.due("a field that pays nothing", none.count(7), 0);
    }

    private static void promise11_doubtOneLess() {
        Edge.of(11, "0: DOUBT one less (0 at least)");
        CraneCloth x = Check.house("sk2;b");
        for (int want : new int[] {1, 0, 0, 0}) {
            Check.weeks(x, "0");
            Edge.due("behind a rest", x.rule(5), want);
        }
        CraneCloth iron = Check.house("sk2;b");
        iron.iron(true);
        Check.weeks(iron, "0");
        Edge.due("behind iron too", iron.rule(5), 1);
        CraneCloth gone = Check.house("sk2;b");
        Check.weeks(gone, "3000");
        Edge.due("when she is gone", gone.rule(5), 0);
    }

    private static void promise11_whenSheIsGone() {
        Edge.of(11, "or if DOUBT is as much as that with which he LOOKS, or more");
        int[][] cases = {
            // doubt, with which he looks, the deed, gone then
            {2, 4, 1, 0}, {3, 4, 1, 1}, {4, 4, 1, 1}, {9, 4, 1, 1},
            {3, 4, 2, 0}, {4, 4, 2, 1}, {5, 4, 2, 1}, {9, 1, 2, 1},
            {4, 4, 0, 0}, {5, 4, 0, 1}, {6, 4, 0, 1}, {1, 1, 0, 0}, {0, 1, 0, 0}, {0, 1, 2, 0}, {0, 1, 1, 1}};
        for (int[] c : cases) {
            CraneCloth x = Check.house("sk" + c[0] + "l" + c[1] + ";b");
            Edge.due("not gone at first", x.count(10), 0);
            x.week(c[2]);
            Edge.due("k" + c[0] + "l" + c[1] + " week(" + c[2] + ")", x.count(10), c[3]);
        }
        CraneCloth iron = Check.house("sk3l4;b");
        iron.iron(true);
        Check.weeks(iron, "1");
        Edge.due("iron, 3 of 4", iron.count(10), 0);
        CraneCloth much = Check.house("sk4l4;b");
        much.iron(true);
        Check.weeks(much, "1");
        Edge.due("iron, 4 of 4", much.count(10), 1);
        Edge.of(11, "she is, if he LOOKED");
        CraneCloth x = Check.house("sk0l20;b");
        x.iron(true);
        Check.weeks(x, "3");
        Edge.due("gone", x.count(10), 1);
        Edge.due("down does not grow", x.rule(0), 30);
    }

    private static void promise11_downGrows() {
        Edge.of(11, "else DOWN GROWS (not above the most)");
        CraneCloth x = Check.house("sw36m40g3;b");
        for (int want : new int[] {39, 40, 40}) {
            Check.weeks(x, "2");
            Edge.due("behind a week", x.rule(0), want);
        }
        Check.weeks(x, "1");
        Edge.due("40 less 8 and 3", x.rule(0), 35);
        CraneCloth never = Check.house("sg0;b");
        Check.weeks(never, "0");
        Edge.due("it never grows", never.rule(0), 30);
        CraneCloth one = Check.house("sw0m1g9;b");
        Check.weeks(one, "0");
        Edge.due("the most is 1", one.rule(0), 1);
        CraneCloth full = Check.house("sw60m60g9;b");
        Check.weeks(full, "0");
        Edge.due("60 is the most", full.rule(0), 60);
        Edge.due("takes 1, grows 9", full.week(1), 2);
        Edge.due("60 less 8 and 9, not above the most", full.rule(0), 60);
    }

    private static void promise11_whoIsGoneStaysSo() {
        Edge.of(11, "who is GONE stays so, DOWN stays as it is");
        CraneCloth x = Check.house("sk4l4;b");
        Check.weeks(x, "2");
        Edge.due("gone", x.count(10), 1);
        Edge.due("down", x.rule(0), 30);
        Check.weeks(x, "00000");
        Edge.due("doubt is no more", x.rule(5), 0);
        Edge.due("gone still", x.count(10), 1);
        Edge.due("down still", x.rule(0), 30);
        CraneCloth wove = Check.house("sk3l4;b");
        Check.weeks(wove, "120");
        Edge.due("gone by weaving: down is less, and grows no more", wove.rule(0), 22);
        Edge.due("the bolt is there", wove.count(8), 1);
        Edge.due("the bolt is in the book", wove.book(0, 1), 30);
    }

    private static void promise11_999() {
        Edge.of(11, "(3) The WEEK is one later (999 at most: none goes by then).");
        CraneCloth x = Edge.inWeek(997, "b");
        Edge.due("from 997", x.week(2), 998);
        Edge.due("from 998", x.week(1), 999);
        Edge.of(11, "beyond 999");
        String before = Edge.state(x);
        for (int deed = 0; deed <= 3; deed++) {
            Edge.due("week(" + deed + ") from 999", x.week(deed), NONE);
        }
        Edge.same("nothing changes", Edge.state(x), before);
        Edge.due("other acts can be", x.sell(0, 0), 23);
        x.undo();
        x.undo();
        Edge.due("a week undone", x.count(6), 998);
        Edge.due("from 998 again", x.week(0), 999);
    }

    private static void promise17_refused() {
        Edge.of(17, "no HOUSE");
        Edge.due("lives(1, 1)", new CraneCloth().lives(1, 1), NONE);
        Edge.of(17, "out of bounds");
        CraneCloth x = Check.house("b");
        Edge.due("lives(0, 1)", x.lives(0, 1), NONE);
        Edge.due("lives(-1, 1)", x.lives(-1, 1), NONE);
        Edge.due("lives(61, 1)", x.lives(61, 1), NONE);
        for (int far : Edge.FAR) {
            Edge.due("lives(" + far + ", 1)", x.lives(far, 1), NONE);
        }
        Edge.due("no week went by", x.count(6), 0);
        Edge.of(17, "LIVES by a seed: n (1 .. 60) WEEKS");
        Edge.due("lives(1, 1)", x.lives(1, 1), 1);
        Edge.due("lives(60, 1)", x.lives(60, 1), 61);
        Edge.due("sixty in the log", x.count(16), 60);
    }

    private static void promise17_beyond999() {
        Edge.of(17, "beyond 999");
        CraneCloth x = Edge.inWeek(939, "b");
        x.week(0);
        String before = Edge.state(x);
        Edge.due("60 from 940", x.lives(60, 1), NONE);
        Edge.same("nothing changes", Edge.state(x), before);
        Edge.due("59 from 940", x.lives(59, 1), 999);
        Edge.due("1 from 999", x.lives(1, 1), NONE);
        x.undo();
        Edge.due("2 from 998", x.lives(2, 1), NONE);
        Edge.due("1 from 998", x.lives(1, 1), 999);
        Edge.due("60 from 939", Edge.inWeek(939, "b").lives(60, 1), 999);
    }

    private static final BigInteger TIMES = new BigInteger("6364136223846793005");
    private static final BigInteger PLUS = new BigInteger("1442695040888963407");
    private static final BigInteger ROUND = BigInteger.ONE.shiftLeft(64);
    private static BigInteger drawn;

    /** A draw by numbers that have no bounds, held within 64 bits by hand. */
    private static int draw(int j) {
        drawn = drawn.multiply(TIMES).add(PLUS).mod(ROUND);
        return drawn.shiftRight(33).mod(BigInteger.valueOf(j)).intValueExact();
    }

    private static void seed(long seed) {
        drawn = BigInteger.valueOf(seed).mod(ROUND);
    }

    private static void promise17_lazy() {
        Edge.of(17, "each a draw of 10 below LAZY (0 .. 9; 2 at first): rest");
        for (int lazy = 0; lazy <= 9; lazy++) {
            for (long seed = 1; seed <= 8; seed++) {
                // she can't weave: of a draw of 2 comes the field either way
                CraneCloth x = Check.house("sw0g0;b");
                x.lazy(lazy);
                x.lives(40, seed);
                seed(seed);
                boolean same = true;
                for (int week = 0; week < 40; week++) {
                    int deed = 0;
                    if (draw(10) >= lazy) {
                        deed = 2;
                        draw(2);
                    }
                    same &= x.log(39 - week, 0) == deed;
                }
                Edge.due("LAZY " + lazy + ", seed " + seed, same, true);
            }
        }
        CraneCloth never = Check.house("sw0g0;b");
        never.lazy(0);
        never.lives(60, 5);
        Edge.due("LAZY 0: no rest in sixty weeks", never.count(7), 180);
        CraneCloth first = Check.house("sw0g0;b");
        CraneCloth two = Check.house("sw0g0;b");
        two.lazy(3);
        two.lazy(2);
        first.lives(60, 5);
        two.lives(60, 5);
        Edge.due("2 at first", first.count(7), two.count(7));
    }

    /** The first seed whose first draws are as wanted: of 10, of 2, of the buyers. */
    private static long seedOf(int lazy, int coin, int buyers, int buyer) {
        for (long seed = 0; seed < 100000; seed++) {
            seed(seed);
            boolean rest = draw(10) < lazy;
            if (rest != (coin < 0)) {
                continue;
            }
            if (coin >= 0 && draw(2) != coin) {
                continue;
            }
            if (draw(buyers) == buyer) {
                return seed;
            }
        }
        Edge.due("a seed is found", false, true);
        return 0;
    }

    private static void promise17_weavesIfSheCan() {
        Edge.of(17, "0: she weaves, if she can, else he ploughs; 1: he ploughs");
        long weaves = seedOf(2, 0, 1, 0);
        long ploughs = seedOf(2, 1, 1, 0);
        CraneCloth can = Check.house("sw9;bn1");
        can.lives(1, weaves);
        Edge.due("9 of 8: she weaves", can.log(0, 0), 1);
        CraneCloth no = Check.house("sw8;bn1");
        no.lives(1, weaves);
        Edge.due("8 of 8: he ploughs", no.log(0, 0), 2);
        CraneCloth gone = Check.house("b");
        Check.weeks(gone, "3");
        gone.lives(1, weaves);
        Edge.due("gone: he ploughs", gone.log(0, 0), 2);
        CraneCloth other = Check.house("sw9;bn1");
        other.lives(1, ploughs);
        Edge.due("a draw of 1: he ploughs", other.log(0, 0), 2);
        CraneCloth full = Check.house("sw60m60g9t1l20;b");
        full.iron(true);
        for (int i = 0; i < 60; i++) {
            full.week(1);
        }
        full.lives(1, weaves);
        Edge.due("sixty in the book: he ploughs", full.log(0, 0), 2);
        Edge.due("sixty still", full.count(15), 60);
    }

    private static void promise17_soldIfWanted() {
        Edge.of(17, "if there is a BOLT, a draw of how many BUYERS there are: it is SOLD to that one");
        for (int buyer = 0; buyer < 5; buyer++) {
            CraneCloth x = Check.house("bp1;bp2;bp3;bp4;bp5");
            x.lives(1, seedOf(2, 0, 5, buyer));
            Edge.due("sold to " + buyer, x.buyer(buyer, 3), 1);
            Edge.due("money", x.count(7), buyer + 1);
            Edge.due("no bolt is left", x.count(8), 0);
            Edge.due("the log tells of money ahead of it", x.log(0, 1), 0);
        }
        CraneCloth rest = Check.house("bp1;bp2");
        Check.weeks(rest, "1");
        rest.lives(1, seedOf(2, -1, 2, 1));
        Edge.due("behind a rest too", rest.buyer(1, 3), 1);
        CraneCloth field = Check.house("bp1;bp2");
        Check.weeks(field, "1");
        field.lives(1, seedOf(2, 1, 2, 0));
        Edge.due("behind the field too", field.count(7), 4);
        CraneCloth gone = Check.house("bp1");
        Check.weeks(gone, "13");
        gone.lives(1, seedOf(2, 1, 1, 0));
        Edge.due("when she is gone, too", gone.count(7), 4);
        CraneCloth third = Check.house("bp1q1");
        Check.weeks(third, "1");
        third.cut();
        third.lives(1, seedOf(2, 1, 1, 0));
        Edge.due("no bolt, but thirds: none is sold", third.count(9), 3);
        Edge.of(17, "if it WANTS still (and MONEY stays within 9,999)");
        CraneCloth sated = Check.house("bp1n1;bp2");
        Check.weeks(sated, "11");
        sated.sell(0, 0);
        sated.lives(1, seedOf(2, -1, 2, 0));
        Edge.due("it wants no more: the bolt stays", sated.count(8), 1);
        Edge.due("the week goes by", sated.count(6), 3);
        int[][] rich = {{9938, 9998}, {9939, 9999}, {9940, 9940}};
        for (int[] money : rich) {
            CraneCloth x = Check.house("bp60");
            Check.weeks(x, "1");
            Check.riches(x, money[0]);
            x.lives(1, seedOf(2, -1, 1, 0));
            Edge.due("60 to " + money[0], x.count(7), money[1]);
        }
    }

    private static void promise17_goingRound() {
        Edge.of(17, "x, at first the seed, becomes x times 6364136223846793005 and 1442695040888963407 (64 bits, going round); "
            + "a draw of j: (x shifted right by 33, without sign) modulo j");
        long[] seeds = {0, 1, -1, Long.MAX_VALUE, Long.MIN_VALUE, 1L << 32, -(1L << 33), 0x123456789abcdefL, 999999999999L};
        for (long seed : seeds) {
            CraneCloth x = Check.house("sw60m60g3t1l20;bp1n9;bp2n9;bp3n9");
            x.lazy(4);
            Edge.due("lives(60, " + seed + ")", x.lives(60, seed), 60);
            CraneCloth hand = Check.house("sw60m60g3t1l20;bp1n9;bp2n9;bp3n9");
            seed(seed);
            for (int week = 0; week < 60; week++) {
                if (draw(10) < 4) {
                    hand.week(0);
                } else if (draw(2) == 1 || hand.week(1) == NONE) {
                    hand.week(2);
                }
                if (hand.count(8) > 0) {
                    hand.sell(draw(3), 0);
                }
            }
            int[] whats = {6, 7, 8, 9, 10, 15, 16};
            for (int what : whats) {
                Edge.due("count(" + what + ") by hand, seed " + seed, x.count(what), hand.count(what));
            }
            for (int i = 0; i < 60; i += 7) {
                Edge.due("log(" + i + ", 0) by hand, seed " + seed, x.log(i, 0), hand.log(i, 0));
            }
            for (int buyer = 0; buyer < 3; buyer++) {
                Edge.due("buyer(" + buyer + ", 3) by hand, seed " + seed, x.buyer(buyer, 3), hand.buyer(buyer, 3));
            }
        }
        // a draw of 1 is always 0, but x goes on by it
        CraneCloth one = Check.house("sw60m60g3t1l20;bp1n9");
        one.lives(30, 77);
        seed(77);
        for (int week = 0, bolts = 0, wants = 9; week < 30; week++) {
            int deed = draw(10) < 2 ? 0 : draw(2) == 0 ? 1 : 2;
            bolts += deed == 1 ? 1 : 0;
            Edge.due("deed of week " + week + " with one buyer", one.log(29 - week, 0), deed);
            if (bolts > 0 && draw(1) == 0 && wants > 0) {
                bolts--;
                wants--;
            }
        }
    }

    private static void promise17_oneAct() {
        Edge.of(17, "Each WEEK with what is behind it is one ACT.");
        CraneCloth x = Check.house("bp7");
        String before = Edge.state(x);
        x.lives(1, seedOf(2, 0, 1, 0));
        Edge.due("woven and sold", x.count(7), 7);
        Edge.due("one act", x.count(17), 1);
        Edge.due("undone at once", x.undo(), 0);
        Edge.same("as it was", Edge.state(x), before);
        x.lives(39, 3);
        Edge.due("39 acts", x.count(17), 39);
        x.lives(2, 3);
        Edge.due("40 of 41", x.count(17), 40);
        for (int i = 0; i < 40; i++) {
            x.undo();
        }
        Edge.due("one week stays", x.count(6), 1);
    }

    private static void promise19_refused() {
        Edge.of(19, "no such ones");
        Edge.due("without a house", new CraneCloth().log(0, 0), NONE);
        CraneCloth x = Check.house("b");
        Edge.due("without a week", x.log(0, 0), NONE);
        Check.weeks(x, "22");
        Edge.due("log(1, 0) is one", x.log(1, 0), 2);
        int[][] refused = {{2, 0}, {-1, 0}, {0, 3}, {0, -1}};
        for (int[] r : refused) {
            Edge.due("log(" + r[0] + ", " + r[1] + ")", x.log(r[0], r[1]), NONE);
        }
        for (int far : Edge.FAR) {
            Edge.due("log(" + far + ", 0)", x.log(far, 0), NONE);
            Edge.due("log(0, " + far + ")", x.log(0, far), NONE);
        }
        x.undo();
        Edge.due("undone", x.log(1, 0), NONE);
        x.undo();
        Edge.due("all undone", x.log(0, 0), NONE);
    }

    private static void promise19_latestSixty() {
        Edge.of(19, "(the latest 60)");
        CraneCloth x = Check.house("sp1;b");
        for (int week = 1; week <= 59; week++) {
            x.week(2);
        }
        Edge.due("59 weeks", x.count(16), 59);
        Edge.due("log(59, 1) of 59", x.log(59, 1), NONE);
        x.week(2);
        Edge.due("60 weeks", x.count(16), 60);
        Edge.due("log(59, 1) of 60", x.log(59, 1), 1);
        x.week(2);
        Edge.due("61 weeks", x.count(16), 60);
        Edge.due("log(59, 1) of 61", x.log(59, 1), 2);
        Edge.due("log(60, 1) of 61", x.log(60, 1), NONE);
        Edge.due("log(0, 1) of 61", x.log(0, 1), 61);
        for (int week = 62; week <= 130; week++) {
            x.week(2);
        }
        Edge.due("log(59, 1) of 130", x.log(59, 1), 71);
        Edge.of(19, "the latest 40 can be UNDONE one by one (LOG, THE BOOK, too)");
        for (int i = 1; i <= 40; i++) {
            x.undo();
            Edge.due("log(59, 1) with " + i + " undone", x.log(59, 1), 71 - i);
        }
        Edge.due("log(0, 1) with forty undone", x.log(0, 1), 90);
        x.week(0);
        Edge.due("log(0, 0) of another week", x.log(0, 0), 0);
        Edge.due("log(1, 1) behind it", x.log(1, 1), 90);
        Edge.due("log(59, 1) behind it", x.log(59, 1), 32);
    }

    private static void promise19_then() {
        Edge.of(19, "LOG: DEED, MONEY, DOWN then");
        CraneCloth x = Check.house("sw10m12g3t8p4;bp50");
        Check.weeks(x, "1202");
        x.sell(0, 0);
        Check.weeks(x, "3");
        int[][] want = {{3, 58, 12}, {2, 8, 12}, {0, 4, 11}, {2, 4, 8}, {1, 0, 5}};
        for (int i = 0; i < want.length; i++) {
            for (int what = 0; what <= 2; what++) {
                Edge.due("log(" + i + ", " + what + ")", x.log(i, what), want[i][what]);
            }
        }
    }

    private static void promise20_refused() {
        Edge.of(20, "no such ones");
        Edge.due("without a house", new CraneCloth().book(0, 0), NONE);
        CraneCloth x = Check.house("b");
        Check.weeks(x, "2");
        Edge.due("without a bolt", x.book(0, 0), NONE);
        Check.weeks(x, "11");
        Edge.due("book(1, 0) is one", x.book(1, 0), 2);
        int[][] refused = {{2, 0}, {-1, 0}, {0, 3}, {0, -1}};
        for (int[] r : refused) {
            Edge.due("book(" + r[0] + ", " + r[1] + ")", x.book(r[0], r[1]), NONE);
        }
        for (int far : Edge.FAR) {
            Edge.due("book(" + far + ", 0)", x.book(far, 0), NONE);
            Edge.due("book(0, " + far + ")", x.book(0, far), NONE);
        }
        x.undo();
        Edge.due("undone", x.book(1, 0), NONE);
        Edge.due("the first is there", x.book(0, 0), 1);
    }

    private static void promise20_aheadOfIt() {
        Edge.of(20, "the WEEK, DOWN ahead of it, what it TOOK");
        CraneCloth x = Edge.byLaw("sw20m30g4l20;b", "y:y+n+5");
        Check.weeks(x, "1021");
        // week 0: 20 down, 5 taken; week 3: 27 of 19, 23, 27, and 9 taken
        int[][] want = {{0, 20, 5}, {3, 27, 9}};
        for (int i = 0; i < 2; i++) {
            for (int what = 0; what <= 2; what++) {
                Edge.due("book(" + i + ", " + what + ")", x.book(i, what), want[i][what]);
            }
        }
        x.law(NONE);
        Edge.due("what it took stays", x.book(1, 2), 9);
        x.sell(0, 0);
        x.cut();
        Edge.due("a bolt that was sold stays in the book", x.count(15), 2);
        CraneCloth nothing = Edge.byLaw("sw1g0;b", "y:0");
        Check.weeks(nothing, "11");
        Edge.due("it took nothing", nothing.book(1, 2), 0);
        CraneCloth late = Edge.byLaw("sw60m60;b", "y:59");
        Check.weeks(late, "1");
        Edge.due("60 ahead of it", late.book(0, 1), 60);
        Edge.due("59 taken", late.book(0, 2), 59);
    }
}
