/** Promises 11 to 20, 22, 23 and 45 to 47: what is done, written down, undone and kept. */
public final class PromisesOfActs {
    private static final int HIDDEN = -1000000;

    public static void main(String[] args) {
        weaving();
        resting();
        ploughing();
        looking();
        lastWeek();
        fullBook();
        cutting();
        selling();
        paying();
        iron();
        giving();
        lives();
        drawnLives();
        undoing();
        undoingFar();
        logAndBook();
        runs();
        performing();
        images();
        counts();
        refused();
        Check.finish();
    }

    private static void state(int promise, CraneCloth x, String when, int... want) {
        String[] names = {"down", "doubt", "money", "bolts", "gone", "week"};
        int[] got = {x.rule(0), x.rule(5), x.count(7), x.count(8), x.count(10), x.count(6)};
        for (int i = 0; i < want.length; i++) {
            Check.due(promise, when + ": " + names[i], got[i], want[i]);
        }
    }

    private static void weaving() {
        CraneCloth x = Check.house("sw10m12g3t8p3k2l5;b");
        Check.due(11, "week(1)", x.week(1), 1);
        state(11, x, "woven once", 5, 3, 0, 1, 0, 1);
        Check.due(11, "week(1) with 5 of 8", x.week(1), -1);
        Check.weeks(x, "222");
        state(11, x, "down grows to the most", 12, 3, 9, 1, 0, 4);
        Check.due(11, "week(1) with 12", x.week(1), 5);
        state(11, x, "woven twice", 7, 4, 9, 2, 0, 5);
        Check.weeks(x, "2");
        Check.due(11, "week(1), doubt is as much then", x.week(1), 7);
        state(11, x, "gone", 2, 5, 12, 3, 1, 7);
        Check.weeks(x, "0");
        state(11, x, "gone, doubt is less, down stays", 2, 4, 12, 3, 1, 8);
        Check.due(11, "she is gone: week(1)", x.week(1), -1);
        Check.due(11, "down 8, takes 8", Check.house("sw8;b").week(1), -1);
        Check.due(11, "down 9, takes 8", Check.house("sw9;b").week(1), 1);
        Check.due(11, "week(-1)", x.week(-1), -1);
        Check.due(11, "week(4)", x.week(4), -1);
        Check.due(11, "no house", new CraneCloth().week(0), -1);
        CraneCloth law = Check.house("sw1m1g0;b");
        Check.tell(law, 1, "y:0-5");
        law.law(0);
        Check.weeks(law, "1");
        state(11, law, "a bolt that takes nothing", 1, 3, 0, 1, 0, 1);
    }

    private static void resting() {
        CraneCloth x = Check.house("sk1;b");
        Check.weeks(x, "0");
        state(11, x, "rested", 33, 0, 0, 0, 0, 1);
        Check.weeks(x, "0");
        state(11, x, "doubt is 0 at least", 36, 0, 0, 0, 0, 2);
        CraneCloth much = Check.house("sk5l4;b");
        Check.weeks(much, "0");
        state(11, much, "doubt is less, but enough", 30, 4, 0, 0, 1, 1);
        CraneCloth enough = Check.house("sk4l4;b");
        Check.weeks(enough, "0");
        state(11, enough, "doubt was enough, but is less", 33, 3, 0, 0, 0, 1);
    }

    private static void ploughing() {
        CraneCloth x = Check.house("sp9;b");
        Check.weeks(x, "2");
        state(11, x, "ploughed", 33, 2, 9, 0, 0, 1);
        Check.riches(x, 9995);
        Check.weeks(x, "2");
        Check.due(11, "more than 9999 is lost", x.count(7), 9999);
        CraneCloth gone = Check.house("sk2l2;b");
        Check.weeks(gone, "2");
        state(11, gone, "doubt was enough", 30, 2, 3, 0, 1, 1);
        Check.weeks(gone, "2");
        state(11, gone, "he ploughs on", 30, 2, 6, 0, 1, 2);
    }

    private static void looking() {
        CraneCloth x = Check.house("b");
        Check.weeks(x, "1");
        Check.due(11, "week(3)", x.week(3), 2);
        state(11, x, "he looked", 25, 3, 0, 1, 1, 2);
        Check.due(11, "week(3) again", x.week(3), -1);
        Check.due(11, "refused, no week", x.count(6), 2);
        CraneCloth iron = Check.house("b");
        iron.iron(true);
        Check.due(11, "week(3) behind iron", iron.week(3), 1);
        Check.due(11, "gone", iron.count(10), 1);
    }

    private static void lastWeek() {
        CraneCloth x = Check.house("sp1;b");
        Check.tell(x, 2, "w2;c");
        for (int i = 0; i < 16; i++) {
            x.lives(60, i);
        }
        Check.due(17, "lives(40) from 960", x.lives(40, 5), -1);
        Check.due(17, "refused", x.count(6), 960);
        Check.due(17, "lives(39) from 960", x.lives(39, 5), 999);
        for (int i = 0; i < 39; i++) {
            x.undo();
        }
        Check.due(17, "lives(38) from 960", x.lives(38, 5), 998);
        Check.due(22, "run in week 998", x.run(0, 0), x.count(8) > 0 ? -1 : 1);
        Check.due(11, "week(2) in 998", x.week(2), 999);
        Check.due(11, "week(2) in 999", x.week(2), -1);
        Check.due(11, "week(0) in 999", x.week(0), -1);
        Check.due(17, "lives(1) in 999", x.lives(1, 1), -1);
        Check.due(22, "run in week 999", x.run(0, 0), 0);
        Check.due(23, "perform in week 999", x.perform(0), 0);
        Check.due(24, "weaving goes on behind 999", x.weaving(2, 0, 1), x.count(7) + 2);
        Check.due(18, "undo in 999", x.undo(), 39);
        Check.due(18, "it is 998", x.count(6), 998);
    }

    private static void fullBook() {
        CraneCloth x = Check.house("sw60m60g9t1l20;b");
        x.iron(true);
        for (int i = 0; i < 60; i++) {
            x.week(1);
        }
        Check.due(20, "sixty bolts", x.count(15), 60);
        Check.due(11, "a bolt more", x.week(1), -1);
        Check.due(20, "book(59, 0)", x.book(59, 0), 59);
        Check.due(20, "book(60, 0)", x.book(60, 0), -1);
        Check.due(25, "stands() with a full book", x.stands(), 0);
        Check.due(26, "soonest(1) with a full book", x.soonest(1), -1);
        Check.due(24, "weaving with a full book", x.weaving(2, 60, 0), 22);
        Check.due(37, "from(-1) of sixty", x.from(-1), 60);
        Check.due(37, "from(59)", x.from(59), 59);
        Check.due(38, "ask() of sixty", x.ask(), 30);
        x.undo();
        Check.due(25, "stands() with 59", x.stands(), 1);
        Check.due(26, "soonest(1) with 59", x.soonest(1), 1);
        Check.due(26, "soonest(2) with 59", x.soonest(2), -1);
        Check.due(11, "a sixtieth again", x.week(1), 60);
        Check.due(12, "cut of sixty", x.cut(), 3);
        CraneCloth drawn = Check.house("sw60m60g9t1l20;bp0n1");
        drawn.iron(true);
        drawn.lazy(0);
        for (int i = 0; i < 4; i++) {
            drawn.lives(60, i);
        }
        Check.due(17, "lives with a full book", drawn.count(15), 60);
    }

    private static void cutting() {
        CraneCloth x = Check.house("b");
        Check.due(12, "cut() without a bolt", x.cut(), -1);
        Check.due(12, "cut() without a house", new CraneCloth().cut(), -1);
        Check.weeks(x, "11");
        Check.due(12, "cut()", x.cut(), 3);
        Check.due(12, "bolts then", x.count(8), 1);
        Check.due(12, "cut()", x.cut(), 6);
        Check.due(12, "cut() of none", x.cut(), -1);
        Check.due(12, "thirds", x.count(9), 6);
        Check.due(12, "the book stays", x.count(15), 2);
    }

    private static void selling() {
        CraneCloth x = Check.house("bp60q30n3;bp7q5n1");
        Check.due(13, "sell without a house", new CraneCloth().sell(0, 0), -1);
        Check.due(13, "sell without a bolt", x.sell(0, 0), -1);
        Check.weeks(x, "111");
        Check.due(13, "sell without a third", x.sell(0, 1), -1);
        Check.due(13, "sell(2, 0)", x.sell(2, 0), -1);
        Check.due(13, "sell(-1, 0)", x.sell(-1, 0), -1);
        Check.due(13, "sell(0, 2)", x.sell(0, 2), -1);
        Check.due(13, "sell(0, -1)", x.sell(0, -1), -1);
        Check.due(13, "sell(1, 0)", x.sell(1, 0), 7);
        Check.due(13, "sell(1, 0): it wants no more", x.sell(1, 0), -1);
        x.cut();
        Check.due(13, "sell(1, 1): it wants no more", x.sell(1, 1), -1);
        Check.due(13, "sell(0, 1)", x.sell(0, 1), 37);
        Check.due(13, "thirds left", x.count(9), 2);
        Check.due(13, "bolts left", x.count(8), 1);
        Check.riches(x, 9940);
        Check.due(13, "too much money", x.sell(0, 0), -1);
        Check.due(13, "a third is not too much", x.sell(0, 1), 9970);
        Check.due(13, "too much money", x.sell(0, 1), -1);
        Check.due(13, "refused: wants still", x.buyer(0, 2), 1);
        CraneCloth just = Check.house("bp60");
        Check.weeks(just, "1");
        Check.riches(just, 9939);
        Check.due(13, "9999 is not too much", just.sell(0, 0), 9999);
    }

    private static void paying() {
        CraneCloth x = Check.house("dn1v10i2;dv20;b");
        Check.due(14, "pay without a house", new CraneCloth().pay(0), -1);
        Check.due(14, "pay(2)", x.pay(2), -1);
        Check.due(14, "pay(-1)", x.pay(-1), -1);
        Check.weeks(x, "000");
        x.give(13);
        Check.due(14, "13 of 14", x.pay(0), -1);
        x.give(1);
        Check.due(14, "14 of 14", x.pay(0), 0);
        x.give(99);
        Check.due(14, "paid once", x.pay(0), -1);
        Check.due(14, "pay(1)", x.pay(1), 79);
        Check.due(14, "both paid", x.owed(0), 0);
    }

    private static void iron() {
        CraneCloth x = Check.house("sw40;b");
        Check.due(15, "no house", new CraneCloth().iron(true), false);
        Check.due(15, "iron(false) at first", x.iron(false), false);
        Check.due(15, "iron(true)", x.iron(true), true);
        Check.due(15, "iron(true) again", x.iron(true), false);
        Check.due(15, "count(11)", x.count(11), 1);
        Check.weeks(x, "1");
        Check.due(15, "doubt does not grow", x.rule(5), 2);
        Check.weeks(x, "0");
        Check.due(15, "doubt is less by rest", x.rule(5), 1);
        Check.due(15, "iron(false)", x.iron(false), true);
        Check.weeks(x, "1");
        Check.due(15, "doubt grows", x.rule(5), 2);
        Check.due(15, "acts", x.count(17), 5);
    }

    private static void giving() {
        CraneCloth x = Check.house("b");
        Check.due(16, "no house", new CraneCloth().give(1), -1);
        Check.due(16, "give(0)", x.give(0), -1);
        Check.due(16, "give(-1)", x.give(-1), -1);
        Check.due(16, "give(100)", x.give(100), -1);
        Check.due(16, "give(1)", x.give(1), 1);
        Check.due(16, "give(99)", x.give(99), 100);
        Check.riches(x, 9990);
        Check.due(16, "give(10) to 9990", x.give(10), -1);
        Check.due(16, "give(9) to 9990", x.give(9), 9999);
        Check.due(16, "give(1) to 9999", x.give(1), -1);
    }

    private static void lives() {
        CraneCloth x = Check.house("b");
        Check.due(17, "no house", new CraneCloth().lives(1, 1), -1);
        Check.due(17, "lives(0, 1)", x.lives(0, 1), -1);
        Check.due(17, "lives(61, 1)", x.lives(61, 1), -1);
        Check.due(17, "lives(60, 1)", x.lives(60, 1), 60);
        Check.due(17, "acts", x.count(17), 40);
        Check.due(17, "the log", x.count(16), 60);
    }

    private static long x;

    private static int draw(int j) {
        x = x * 6364136223846793005L + 1442695040888963407L;
        return (int) ((x >>> 33) % j);
    }

    /** The same life by hand, from the document's words. */
    private static void drawnLives() {
        long[] seeds = {1, 0, -1, 77, Long.MIN_VALUE, 123456789012345L};
        for (int lazy = 0; lazy <= 9; lazy += 3) {
            for (long seed : seeds) {
                int buyers = seed == 77 ? 1 : 3;
                String house = buyers == 1 ? "sw60m60t3g2l15;bn9" : "sw60m60t3g2l15;bn2;bp3n1;bn9";
                CraneCloth drawn = Check.house(house);
                CraneCloth hand = Check.house(house);
                drawn.lazy(lazy);
                hand.lazy(lazy);
                Check.riches(drawn, 9970);
                Check.riches(hand, 9970);
                Check.due(17, "lives(30, " + seed + ")", drawn.lives(30, seed), 30);
                int acts = 40;
                x = seed;
                for (int week = 0; week < 30; week++) {
                    if (draw(10) < lazy) {
                        hand.week(0);
                    } else if (draw(2) != 0 || hand.week(1) == -1) {
                        hand.week(2);
                    }
                    if (hand.count(8) > 0) {
                        hand.sell(draw(buyers), 0);
                    }
                }
                Check.due(17, "acts of lives", drawn.count(17), acts);
                Check.due(17, "money by hand", drawn.count(7), hand.count(7));
                Check.due(17, "bolts by hand", drawn.count(8), hand.count(8));
                Check.due(17, "woven by hand", drawn.count(15), hand.count(15));
                for (int i = 0; i < 30; i++) {
                    for (int what = 0; what <= 2; what++) {
                        Check.due(17, "log by hand", drawn.log(i, what), hand.log(i, what));
                        Check.due(17, "book by hand", drawn.book(i, what), hand.book(i, what));
                    }
                }
                for (int b = 0; b < buyers; b++) {
                    Check.due(17, "bought by hand", drawn.buyer(b, 3), hand.buyer(b, 3));
                }
            }
        }
    }

    private static void undoing() {
        CraneCloth x = Check.house("dn1v5;bp9");
        Check.due(18, "undo of nothing", x.undo(), -1);
        Check.due(18, "undo without a house", new CraneCloth().undo(), -1);
        String[] seen = new String[12];
        for (int i = 0; i < 11; i++) {
            seen[i] = Check.seen(x);
            boolean done;
            switch (i) {
                case 0:
                case 1:
                    done = x.week(1) != -1;
                    break;
                case 2:
                    done = x.week(0) != -1;
                    break;
                case 3:
                    done = x.cut() != -1;
                    break;
                case 4:
                    done = x.sell(0, 1) != -1;
                    break;
                case 5:
                    done = x.sell(0, 0) != -1;
                    break;
                case 6:
                    done = x.pay(0) != -1;
                    break;
                case 7:
                    done = x.iron(true);
                    break;
                case 8:
                    done = x.give(50) != -1;
                    break;
                case 9:
                    done = x.lives(1, 4) != -1;
                    break;
                default:
                    done = x.week(3) != -1;
            }
            Check.due(18, "act " + i, done, true);
        }
        for (int i = 10; i >= 0; i--) {
            Check.due(18, "undo to " + i, x.undo(), i);
            Check.same(18, "undone to " + i, Check.seen(x), seen[i]);
        }
        Check.due(18, "undo of nothing more", x.undo(), -1);
    }

    private static void undoingFar() {
        CraneCloth x = Check.house("sp1;b");
        String[] seen = new String[130];
        for (int i = 0; i < 110; i++) {
            seen[i] = Check.seen(x).replaceAll("^(\\S+ ){18}", "");
            x.week(i % 7 == 0 ? 0 : 2);
        }
        Check.due(18, "forty at most", x.count(17), 40);
        x.week(5);
        x.sell(0, 0);
        x.cut();
        x.pay(0);
        for (int i = 1; i <= 40; i++) {
            Check.due(18, "undo " + i, x.undo(), 40 - i);
            Check.due(18, "the log is as long", x.count(16), 60);
            Check.same(18, "undone " + i, Check.seen(x).replaceAll("^(\\S+ ){18}", ""), seen[110 - i]);
        }
        Check.due(18, "undo 41", x.undo(), -1);
        Check.due(18, "seventy weeks are left", x.count(6), 70);
        x.give(1);
        Check.due(18, "an act more", x.undo(), 0);
        CraneCloth y = Check.house("b");
        y.lives(50, 9);
        y.lives(5, 9);
        for (int i = 1; i <= 40; i++) {
            y.undo();
        }
        Check.due(18, "a week of lives is an act", y.count(6), 15);
    }

    private static void logAndBook() {
        CraneCloth x = Check.house("sw20m30g4p3;b");
        Check.due(19, "log(0, 0) of none", x.log(0, 0), -1);
        Check.due(20, "book(0, 0) of none", x.book(0, 0), -1);
        Check.weeks(x, "2013");
        int[][] log = {{3, 3, 24}, {1, 3, 24}, {0, 3, 28}, {2, 3, 24}};
        for (int i = 0; i < 4; i++) {
            for (int what = 0; what < 3; what++) {
                Check.due(19, "log(" + i + ", " + what + ")", x.log(i, what), log[i][what]);
            }
        }
        Check.due(19, "log(4, 0)", x.log(4, 0), -1);
        Check.due(19, "log(-1, 0)", x.log(-1, 0), -1);
        Check.due(19, "log(0, 3)", x.log(0, 3), -1);
        Check.due(19, "log(0, -1)", x.log(0, -1), -1);
        int[] book = {2, 28, 8};
        for (int what = 0; what < 3; what++) {
            Check.due(20, "book(0, " + what + ")", x.book(0, what), book[what]);
        }
        Check.due(20, "book(1, 0)", x.book(1, 0), -1);
        Check.due(20, "book(-1, 0)", x.book(-1, 0), -1);
        Check.due(20, "book(0, 3)", x.book(0, 3), -1);
        Check.due(20, "book(0, -1)", x.book(0, -1), -1);
        CraneCloth y = Check.house("sp1;b");
        for (int i = 0; i < 70; i++) {
            y.week(2);
        }
        Check.due(19, "sixty at most", y.count(16), 60);
        Check.due(19, "log(59, 1)", y.log(59, 1), 11);
        Check.due(19, "log(60, 1)", y.log(60, 1), -1);
    }

    private static void runs() {
        CraneCloth x = new CraneCloth();
        Check.tell(x, 2, "w1;w1;c;s00;s01;s01;w2;p0;w3;w0;p0");
        Check.due(22, "run without a house", x.run(0, 0), HIDDEN);
        Check.tell(x, 0, "sp7;dv20n1i1;b");
        // 20 for the bolt, 8 and 8 for thirds, 7 by the field, 22 for the debt
        Check.due(22, "run(0, 0)", x.run(0, 0), 10);
        Check.due(22, "run(0, 1)", x.run(0, 1), 21);
        Check.due(22, "nothing was done", x.count(6), 0);
        Check.due(22, "run(0, 2)", x.run(0, 2), HIDDEN);
        Check.due(22, "run(0, -1)", x.run(0, -1), HIDDEN);
        Check.due(22, "run(1, 0)", x.run(1, 0), HIDDEN);
        Check.due(22, "run(-1, 0)", x.run(-1, 0), HIDDEN);
        Check.tell(x, 2, "w2;w2");
        Check.due(22, "all can be", x.run(1, 0), -1);
        Check.due(22, "money of all", x.run(1, 1), 14);
        Check.tell(x, 2, "w2;s90;w2");
        Check.due(22, "no such buyer", x.run(2, 0), 1);
        Check.tell(x, 2, "w3;w3");
        Check.due(22, "he looks once", x.run(3, 0), 1);
    }

    private static void performing() {
        CraneCloth x = new CraneCloth();
        Check.tell(x, 2, "w1;w1;c;s00;s01;s01;w2;p0;w3;w0;p0");
        Check.due(23, "perform without a house", x.perform(0), -1);
        Check.tell(x, 0, "sp7;dv20n1i1;b");
        Check.due(23, "perform(1)", x.perform(1), -1);
        Check.due(23, "perform(-1)", x.perform(-1), -1);
        Check.due(23, "perform(0)", x.perform(0), 10);
        Check.due(23, "money", x.count(7), 21);
        Check.due(23, "gone", x.count(10), 1);
        Check.due(23, "acts", x.count(17), 10);
        Check.due(23, "the log", x.count(16), 5);
        Check.due(23, "the book", x.count(15), 2);
        Check.due(23, "perform(0) again", x.perform(0), 0);
        Check.due(23, "the last act is undone", x.undo(), 9);
        Check.due(23, "a week less", x.count(6), 4);
        Check.tell(x, 2, "w2;w2");
        Check.due(23, "all steps", x.perform(1), 2);
    }

    private static void images() {
        CraneCloth x = Check.house("sp7;dn1v5;bp9n9");
        Check.due(45, "image() without a house", new CraneCloth().image(), -1);
        Check.due(46, "back() without a house", new CraneCloth().back(), -1);
        Check.due(46, "back() without an image", x.back(), -1);
        Check.weeks(x, "1112");
        x.cut();
        x.sell(0, 0);
        x.sell(0, 1);
        x.pay(0);
        x.iron(true);
        x.test(0, true);
        x.sign(0, 1, true);
        Check.due(45, "image()", x.image(), 4);
        Check.due(45, "acts can still be undone", x.count(17), 9);
        String before = Check.seen(x);
        for (int i = 0; i < 9; i++) {
            x.undo();
        }
        x.law(-1);
        Check.weeks(x, "0121212");
        x.lives(60, 3);
        x.lives(60, 4);
        Check.weeks(x, x.count(10) == 1 ? "2" : "3");
        Check.due(46, "back()", x.back(), 4);
        Check.due(46, "no act can be undone", x.undo(), -1);
        Check.same(46, "it is so again", Check.seen(x).replaceFirst("^((\\S+ ){17})0 ", "$19 "), before);
        x.test(1, true);
        x.sign(2, 1, true);
        x.lazy(5);
        Check.weeks(x, "2");
        Check.due(46, "back() again", x.back(), 4);
        Check.due(46, "tests are not of the image", x.count(13), 2);
        Check.due(46, "signs are not of the image", x.count(14), 2);
        Check.due(46, "lazy is not of the image", x.count(12), 5);
        Check.weeks(x, "22");
        Check.due(46, "acts behind it", x.count(17), 2);
        Check.due(45, "image() instead", x.image(), 6);
        x.undo();
        Check.due(46, "back() to the later one", x.back(), 6);
        Check.tell(x, 0, "b");
        Check.due(46, "no image of this house", x.back(), -1);
    }

    private static void counts() {
        CraneCloth x = Check.house("sp7;d;d;bp9n9;b;b");
        Check.tell(x, 1, "y:1");
        Check.tell(x, 1, "y:1");
        Check.tell(x, 2, "c");
        Check.feed(x, "hello");
        x.law(1);
        x.lazy(6);
        Check.weeks(x, "111112");
        x.cut();
        x.sell(0, 0);
        x.iron(true);
        x.test(0, true);
        x.test(0, true);
        x.sign(0, 0, true);
        Check.weeks(x, "3");
        int[] want = {3, 2, 2, 1, 5, 1, 7, 16, 3, 3, 1, 1, 6, 2, 1, 5, 7, 10};
        for (int i = 0; i < want.length; i++) {
            Check.due(47, "count(" + i + ")", x.count(i), want[i]);
        }
        Check.due(47, "count(18)", x.count(18), HIDDEN);
        Check.due(47, "count(-1)", x.count(-1), HIDDEN);
    }

    /** What is refused changes nothing. */
    private static void refused() {
        CraneCloth x = Check.house("sw9k9l10;dv99;bp60n1");
        Check.weeks(x, "12");
        x.sell(0, 0);
        Check.tell(x, 2, "c;w1");
        x.image();
        String before = Check.seen(x);
        x.week(1);
        x.week(3);
        x.week(-1);
        x.cut();
        x.sell(0, 0);
        x.sell(7, 7);
        x.pay(0);
        x.pay(9);
        x.iron(false);
        x.give(0);
        x.lives(0, 1);
        x.perform(0);
        x.perform(3);
        x.law(2);
        x.lazy(2);
        x.test(3, true);
        x.sign(3, 0, true);
        x.sign(0, 100, true);
        x.text(0);
        x.end(-1);
        Check.same(47, "all was refused", Check.seen(x), before);
    }
}
