/** Boundary cases of cutting, selling, paying, iron, gifts, undoing, images and counts (promises 12 to 16, 18, 45 to 47). */
final class EdgesOfTrade {
    private static final int NONE = Edge.NONE;
    private static final int HIDDEN = Edge.HIDDEN;
    /** Down for many bolts, and a doubt that is far from enough. */
    private static final String RICH = "sw60m60g9t1l20";

    private EdgesOfTrade() {
    }

    static void all() {
        promise12_cut();
        promise13_refused();
        promise13_wantsNoMore();
        promise13_tooMuchMoney();
        promise14_refused();
        promise14_enough();
        promise15_iron();
        promise16_give();
        promise18_none();
        promise18_latestForty();
        promise18_eachAct();
        promise18_refusedIsNoAct();
        promise18_behindUndo();
        promise45_image();
        promise46_back();
        promise46_noImage();
        promise47_counts();
        promise47_others();
        promise47_refusedChangesNothing();
    }

    private static void promise12_cut() {
        Edge.of(12, "no HOUSE");
        Edge.due("cut()", new CraneCloth().cut(), NONE);
        Edge.of(12, "no BOLT");
        CraneCloth x = Check.house("bn9");
        Edge.due("cut() at first", x.cut(), NONE);
        Edge.due("no act", x.count(17), 0);
        Check.weeks(x, "1");
        Edge.of(12, "a BOLT is CUT in three THIRDS");
        Edge.due("cut()", x.cut(), 3);
        Edge.due("bolts", x.count(8), 0);
        Edge.due("thirds", x.count(9), 3);
        Edge.of(12, "NONE: no BOLT");
        Edge.due("cut() of thirds alone", x.cut(), NONE);
        Check.weeks(x, "1");
        x.sell(0, 0);
        Edge.due("cut() behind a sale", x.cut(), NONE);
        Edge.due("thirds are as they were", x.count(9), 3);
        Check.weeks(x, "13");
        Edge.due("cut() when she is gone", x.cut(), 6);
        CraneCloth sixty = Check.house(RICH + ";b");
        sixty.iron(true);
        for (int i = 0; i < 60; i++) {
            sixty.week(1);
        }
        for (int i = 1; i <= 60; i++) {
            Edge.due("cut " + i, sixty.cut(), 3 * i);
        }
        Edge.due("a sixty-first", sixty.cut(), NONE);
    }

    private static void promise13_refused() {
        Edge.of(13, "no such ones");
        Edge.due("without a house", new CraneCloth().sell(0, 0), NONE);
        CraneCloth x = Check.house("b;b");
        Check.weeks(x, "11");
        x.cut();
        int[][] refused = {{2, 0}, {2, 1}, {-1, 0}, {-1, 1}, {0, -1}, {0, 2}, {1, 2}, {-1, -1}};
        for (int[] r : refused) {
            Edge.due("sell(" + r[0] + ", " + r[1] + ")", x.sell(r[0], r[1]), NONE);
        }
        for (int far : Edge.FAR) {
            Edge.due("sell(" + far + ", 0)", x.sell(far, 0), NONE);
            Edge.due("sell(0, " + far + ")", x.sell(0, far), NONE);
        }
        Edge.due("no money of it", x.count(7), 0);
        Edge.due("sell(1, 0) is one", x.sell(1, 0), 20);
        Edge.due("sell(1, 1) is one", x.sell(1, 1), 28);
        CraneCloth fewer = new CraneCloth();
        for (int i = 0; i < 3; i++) {
            Check.tell(fewer, 0, "d;d;b;b;b;b;b");
        }
        Check.tell(fewer, 0, "d;b");
        Check.weeks(fewer, "11");
        fewer.cut();
        for (int buyer = 1; buyer <= 5; buyer++) {
            Edge.due("a bolt to buyer " + buyer + " of the houses ahead", fewer.sell(buyer, 0), NONE);
            Edge.due("a third to buyer " + buyer + " of the houses ahead", fewer.sell(buyer, 1), NONE);
        }
        Edge.of(13, "there is none");
        Edge.due("no bolt, but thirds", x.sell(0, 0), NONE);
        Edge.due("a third", x.sell(0, 1), 36);
        Edge.due("the last third", x.sell(0, 1), 44);
        Edge.due("no third", x.sell(0, 1), NONE);
        Check.weeks(x, "1");
        Edge.due("no third, but a bolt", x.sell(0, 1), NONE);
        Edge.due("neither at first", Check.house("b").sell(0, 0), NONE);
    }

    private static void promise13_wantsNoMore() {
        Edge.of(13, "it WANTS no more");
        CraneCloth x = Check.house(RICH + ";bn1;bn2;bn9");
        for (int i = 0; i < 12; i++) {
            x.week(1);
        }
        x.cut();
        Edge.due("one of one", x.sell(0, 1), 8);
        Edge.due("a bolt more", x.sell(0, 0), NONE);
        Edge.due("a third more", x.sell(0, 1), NONE);
        Edge.due("one of two", x.sell(1, 0), 28);
        Edge.due("two of two", x.sell(1, 1), 36);
        Edge.due("a bolt more", x.sell(1, 0), NONE);
        Edge.due("a third more", x.sell(1, 1), NONE);
        for (int i = 1; i <= 9; i++) {
            Edge.due("bolt " + i + " of nine", x.sell(2, 0), 36 + 20 * i);
        }
        Edge.due("a tenth", x.sell(2, 0), NONE);
        Edge.due("a bolt is left", x.count(8), 1);
        x.undo();
        Edge.due("undone, it wants again", x.sell(2, 1), 36 + 160 + 8);
        Edge.of(13, "SOLD to a BUYER who WANTS still (MONEY 9,999 at most: else it can't be)");
        Edge.due("what it wants", x.buyer(2, 2), 0);
        CraneCloth free = Check.house("bp0q0");
        Check.weeks(free, "1");
        Edge.due("for nothing", free.sell(0, 0), 0);
        Edge.due("it bought", free.buyer(0, 3), 1);
    }

    private static void promise13_tooMuchMoney() {
        Edge.of(13, "too much MONEY");
        int[][] bolts = {{9938, 9998}, {9939, 9999}, {9940, NONE}, {9999, NONE}};
        for (int[] money : bolts) {
            CraneCloth x = Check.house("bp60q30");
            Check.weeks(x, "1");
            Check.riches(x, money[0]);
            Edge.due("60 to " + money[0], x.sell(0, 0), money[1]);
            Edge.due("the bolt", x.count(8), money[1] == NONE ? 1 : 0);
            Edge.due("what it wants", x.buyer(0, 2), money[1] == NONE ? 3 : 2);
        }
        int[][] thirds = {{9969, 9999}, {9970, NONE}};
        for (int[] money : thirds) {
            CraneCloth x = Check.house("bp60q30");
            Check.weeks(x, "1");
            x.cut();
            Check.riches(x, money[0]);
            Edge.due("30 to " + money[0], x.sell(0, 1), money[1]);
            Edge.due("thirds", x.count(9), money[1] == NONE ? 3 : 2);
        }
        CraneCloth nothing = Check.house("bp0");
        Check.weeks(nothing, "1");
        Check.riches(nothing, 9999);
        Edge.due("nothing to 9,999", nothing.sell(0, 0), 9999);
    }

    private static void promise14_refused() {
        Edge.of(14, "no such one, PAID");
        Edge.due("without a house", new CraneCloth().pay(0), NONE);
        CraneCloth none = Check.house("b");
        none.give(99);
        Edge.due("without debts", none.pay(0), NONE);
        CraneCloth x = Check.house("dv1;dv2;b");
        x.give(99);
        Edge.due("pay(2)", x.pay(2), NONE);
        Edge.due("pay(-1)", x.pay(-1), NONE);
        for (int far : Edge.FAR) {
            Edge.due("pay(" + far + ")", x.pay(far), NONE);
        }
        Edge.due("pay(1)", x.pay(1), 97);
        Edge.due("pay(1) again", x.pay(1), NONE);
        Edge.due("pay(0)", x.pay(0), 96);
        Edge.due("pay(0) again", x.pay(0), NONE);
        x.undo();
        Edge.due("undone, pay(0) once more", x.pay(0), 96);
        CraneCloth fewer = new CraneCloth();
        for (int i = 0; i < 3; i++) {
            Check.tell(fewer, 0, "dv1;dv1;dv1;b");
        }
        Check.tell(fewer, 0, "dv1;b");
        fewer.give(9);
        Edge.due("pay(1) of the houses ahead", fewer.pay(1), NONE);
        CraneCloth six = Check.house("dv1;dv2;dv3;dv4;dv5;dv6;b");
        six.give(21);
        for (int i = 0; i < 6; i++) {
            Edge.due("debt " + i + " of six", six.pay(i), 21 - (i + 1) * (i + 2) / 2);
        }
        Edge.due("a seventh", six.pay(6), NONE);
    }

    private static void promise14_enough() {
        Edge.of(14, "a DEBT is PAID (MONEY no less than it is; once)");
        CraneCloth x = Check.house("dn1v10i3;b");
        x.give(10);
        Edge.due("10 of 10", x.pay(0), 0);
        x.undo();
        Check.weeks(x, "0");
        Edge.due("10 of 10 in the week in which it is due", x.pay(0), 0);
        x.undo();
        Check.weeks(x, "0");
        Edge.of(14, "too little");
        Edge.due("10 of 13", x.pay(0), NONE);
        x.give(2);
        Edge.due("12 of 13", x.pay(0), NONE);
        Edge.due("not paid", x.debt(0, 4), 0);
        x.give(1);
        Edge.due("13 of 13", x.pay(0), 0);
        Edge.due("nothing of one", Check.house("dv1;b").pay(0), NONE);
        CraneCloth most = Edge.inWeek(999, "dn1v99i9;b");
        Check.riches(most, 99 + 998 * 9 - 1);
        Edge.due("one less than the most that a debt can be", most.pay(0), NONE);
        most.give(1);
        Edge.due("the most that a debt can be", most.pay(0), 0);
    }

    private static void promise15_iron() {
        Edge.of(15, "no HOUSE");
        Edge.due("iron(true)", new CraneCloth().iron(true), false);
        Edge.due("iron(false)", new CraneCloth().iron(false), false);
        Edge.of(15, "it is so");
        CraneCloth x = Check.house("b");
        Edge.due("iron(false) at first", x.iron(false), false);
        Edge.due("iron(true)", x.iron(true), true);
        Edge.due("iron(true) again", x.iron(true), false);
        Edge.due("one act", x.count(17), 1);
        Edge.due("iron(false)", x.iron(false), true);
        Edge.due("iron(false) again", x.iron(false), false);
        Edge.due("two acts", x.count(17), 2);
        x.undo();
        Edge.due("undone, it is of iron", x.count(11), 1);
        Edge.due("iron(true) is so", x.iron(true), false);
        Check.tell(x, 0, "b");
        Edge.due("not of iron in another house", x.count(11), 0);
    }

    private static void promise16_give() {
        Edge.of(16, "no HOUSE");
        Edge.due("give(1)", new CraneCloth().give(1), NONE);
        Edge.of(16, "out of bounds");
        CraneCloth x = Check.house("b");
        Edge.due("give(0)", x.give(0), NONE);
        Edge.due("give(-1)", x.give(-1), NONE);
        Edge.due("give(100)", x.give(100), NONE);
        for (int far : Edge.FAR) {
            Edge.due("give(" + far + ")", x.give(far), NONE);
        }
        Edge.due("no money", x.count(7), 0);
        Edge.of(16, "MONEY is given (1 .. 99, 9,999 at most)");
        Edge.due("give(1)", x.give(1), 1);
        Edge.due("give(99)", x.give(99), 100);
        Check.riches(x, 9900);
        Edge.of(16, "too much");
        Edge.due("99 to 9,900", x.give(99), 9999);
        Edge.due("1 to 9,999", x.give(1), NONE);
        x.undo();
        x.give(1);
        Edge.due("99 to 9,901", x.give(99), NONE);
        Edge.due("money is as it was", x.count(7), 9901);
        Edge.due("98 to 9,901", x.give(98), 9999);
    }

    private static void promise18_none() {
        Edge.of(18, "NONE: none.");
        Edge.due("without a house", new CraneCloth().undo(), NONE);
        CraneCloth x = Check.house("b");
        Edge.due("without an act", x.undo(), NONE);
        x.give(1);
        Edge.due("one", x.undo(), 0);
        Edge.due("no more", x.undo(), NONE);
        Edge.due("and no more", x.undo(), NONE);
        x.give(1);
        Check.tell(x, 0, "b");
        Edge.due("of the house ahead", x.undo(), NONE);
    }

    private static void promise18_latestForty() {
        Edge.of(18, "the latest 40 can be UNDONE one by one");
        for (int acts = 39; acts <= 42; acts++) {
            CraneCloth x = Check.house("b");
            for (int i = 0; i < acts; i++) {
                x.give(1);
            }
            int can = Math.min(acts, 40);
            Edge.due("count(17) of " + acts, x.count(17), can);
            for (int i = 1; i <= can; i++) {
                Edge.due("undo " + i + " of " + acts, x.undo(), can - i);
                Edge.due("money with " + i + " of " + acts + " undone", x.count(7), acts - i);
            }
            Edge.due("one more than can be", x.undo(), NONE);
            Edge.due("money left of " + acts, x.count(7), acts - can);
        }
        // the places of the acts go round more than once
        CraneCloth x = Check.house("b");
        for (int i = 0; i < 130; i++) {
            x.give(1);
        }
        for (int i = 0; i < 25; i++) {
            x.undo();
        }
        for (int i = 0; i < 10; i++) {
            x.give(2);
        }
        Edge.due("25 of 40 undone, ten more", x.count(17), 25);
        Edge.due("money", x.count(7), 125);
        for (int i = 0; i < 25; i++) {
            x.undo();
        }
        Edge.due("all undone", x.count(7), 90);
        Edge.due("no more", x.undo(), NONE);
    }

    /** What acts change, by few calls. */
    private static String brief(CraneCloth x) {
        return x.count(6) + " " + x.count(7) + " " + x.count(8) + " " + x.count(9) + " " + x.count(10) + " " + x.count(11)
            + " " + x.count(15) + " " + x.count(16) + " " + x.rule(0) + " " + x.rule(5) + " " + x.buyer(0, 3) + " "
            + x.debt(0, 4) + " " + x.log(0, 0) + " " + x.book(0, 0);
    }

    private static void promise18_eachAct() {
        Edge.of(18, "All these are ACTS");
        CraneCloth x = Check.house("dn1v5;bp9n9");
        Check.tell(x, 2, "w2;w0");
        String[] ahead = new String[9];
        for (int act = 0; act < 9; act++) {
            ahead[act] = brief(x);
            switch (act) {
                case 0:
                case 1:
                    x.week(1);
                    break;
                case 2:
                    x.cut();
                    break;
                case 3:
                    x.sell(0, 1);
                    break;
                case 4:
                    x.sell(0, 0);
                    break;
                case 5:
                    x.pay(0);
                    break;
                case 6:
                    x.iron(true);
                    break;
                case 7:
                    x.give(3);
                    break;
                default:
                    x.week(3);
            }
            Edge.due("an act more", x.count(17), act + 1);
        }
        for (int act = 8; act >= 0; act--) {
            Edge.due("undo()", x.undo(), act);
            Edge.same("as ahead of act " + act, brief(x), ahead[act]);
        }
        x.perform(0);
        Edge.due("steps of a plan are acts", x.count(17), 2);
        x.law(NONE);
        x.lazy(5);
        x.test(0, true);
        x.sign(0, 1, true);
        x.image();
        Check.feed(x, "b");
        Edge.due("the others are not", x.count(17), 2);
        x.undo();
        Edge.due("tests stay", x.count(13), 1);
        Edge.due("signs stay", x.count(14), 1);
        Edge.due("laziness stays", x.count(12), 5);
        Edge.due("the tape stays", x.count(4), 1);
    }

    private static void promise18_refusedIsNoAct() {
        Edge.of(18, "What is refused answers as told and changes nothing.");
        CraneCloth x = Check.house("b");
        for (int i = 0; i < 41; i++) {
            x.give(1);
        }
        // forty acts are held: a refused one must not take the place of the oldest
        x.week(4);
        x.cut();
        x.sell(0, 0);
        x.pay(0);
        x.iron(false);
        x.give(100);
        x.lives(0, 1);
        x.perform(0);
        Edge.due("forty acts", x.count(17), 40);
        for (int i = 0; i < 40; i++) {
            x.undo();
        }
        Edge.due("the oldest is undone too", x.count(7), 1);
    }

    private static void promise18_behindUndo() {
        Edge.of(18, "The latest ACT is UNDONE: how many still can be.");
        CraneCloth x = Check.house("sl20;b");
        Check.weeks(x, "11");
        x.undo();
        Check.weeks(x, "21");
        Edge.due("three acts", x.count(17), 3);
        Edge.due("the book's second bolt is another", x.book(1, 0), 2);
        Edge.due("two bolts", x.count(15), 2);
        Edge.due("undo", x.undo(), 2);
        Edge.due("undo", x.undo(), 1);
        Edge.due("one bolt", x.count(15), 1);
        Edge.due("one week", x.log(0, 0), 1);
    }

    private static void promise45_image() {
        Edge.of(45, "no HOUSE");
        Edge.due("image()", new CraneCloth().image(), NONE);
        Edge.of(45, "An IMAGE (instead of the one ahead): the WEEK.");
        CraneCloth x = Check.house("b");
        Edge.due("in week 0", x.image(), 0);
        Check.weeks(x, "2");
        Edge.due("in week 1", x.image(), 1);
        Edge.due("acts can be undone still", x.count(17), 1);
        x.undo();
        Edge.due("week 0", x.count(6), 0);
        Edge.due("back() to the later one", x.back(), 1);
        Edge.due("the first one is no more", x.back(), 1);
        Edge.due("in week 999", Edge.inWeek(999, "b").image(), 999);
    }

    private static void promise46_back() {
        Edge.of(46, "An IMAGE keeps DOWN, whether she is GONE, DOUBT, the door, MONEY, BOLTS, THIRDS, what was PAID and SOLD, "
            + "the WEEK, the LOG, THE BOOK; BACK: they are so again (no ACT can be UNDONE then).");
        CraneCloth x = Check.house("sl20k3;dv5;dv6;bp9n9;b");
        Check.weeks(x, "1112");
        x.cut();
        x.sell(0, 0);
        x.sell(1, 1);
        x.pay(1);
        x.iron(true);
        x.image();
        String before = Edge.state(x).replaceFirst("^((\\S+ ){17})\\S+ ", "$1");
        x.iron(false);
        x.pay(0);
        x.sell(0, 0);
        x.cut();
        Check.weeks(x, "0113");
        x.give(50);
        Edge.due("back()", x.back(), 4);
        Edge.same("so again", Edge.state(x).replaceFirst("^((\\S+ ){17})\\S+ ", "$1"), before);
        Edge.due("no act", x.count(17), 0);
        Edge.due("undo()", x.undo(), NONE);
        Check.weeks(x, "3");
        Edge.due("an act behind it", x.count(17), 1);
        Edge.due("gone", x.count(10), 1);
        Edge.due("back() again", x.back(), 4);
        Edge.due("not gone", x.count(10), 0);
        Check.weeks(x, "2");
        Edge.due("undone behind back()", x.undo(), 0);
        Edge.due("the week", x.count(6), 4);
        Edge.due("and no more", x.undo(), NONE);
    }

    private static void promise46_noImage() {
        Edge.of(46, "no IMAGE of this HOUSE");
        Edge.due("without a house", new CraneCloth().back(), NONE);
        CraneCloth x = Check.house("b");
        Check.weeks(x, "2");
        Edge.due("without an image", x.back(), NONE);
        Edge.due("acts are as they were", x.count(17), 1);
        x.image();
        Check.tell(x, 0, "b");
        Edge.due("of the house ahead", x.back(), NONE);
        Check.weeks(x, "2");
        Edge.due("nothing changes", x.count(17), 1);
        x.image();
        Check.feed(x, "x");
        Edge.due("a house that is refused", x.text(0), NONE);
        Edge.due("leaves the image", x.back(), 1);
        Edge.of(46, "the LOG, THE BOOK; BACK");
        CraneCloth other = Check.house("sl20;b");
        Check.weeks(other, "11");
        other.image();
        other.undo();
        other.undo();
        Check.weeks(other, "2021");
        Edge.due("another bolt in the book", other.book(0, 0), 3);
        Edge.due("back()", other.back(), 2);
        int[][] book = {{0, 30, 8}, {1, 25, 8}};
        int[][] log = {{1, 0, 20}, {1, 0, 25}};
        for (int i = 0; i < 2; i++) {
            for (int what = 0; what <= 2; what++) {
                Edge.due("book(" + i + ", " + what + ") again", other.book(i, what), book[i][what]);
                Edge.due("log(" + i + ", " + what + ") again", other.log(i, what), log[i][what]);
            }
        }
        Check.weeks(other, "21");
        Edge.due("the image itself is as it was", other.back(), 2);
        Edge.due("its second bolt", other.book(1, 0), 1);
        Edge.due("no third bolt", other.book(2, 0), NONE);
        CraneCloth full = Check.house("sp1;b");
        for (int i = 0; i < 70; i++) {
            full.week(2);
        }
        full.image();
        for (int i = 0; i < 110; i++) {
            full.week(0);
        }
        Edge.due("back()", full.back(), 70);
        Edge.due("the log is as long", full.count(16), 60);
        Edge.due("its latest", full.log(0, 1), 70);
        Edge.due("its earliest", full.log(59, 1), 11);
        Edge.due("one more is none", full.log(60, 1), NONE);
    }

    private static void promise47_counts() {
        Edge.of(47, "0 BUYERS, 1 DEBTS, 2 LAWS, 3 PLANS, 4 bytes of the TAPE, 5 the LAW that holds (NONE), 6 the WEEK, 7 MONEY, "
            + "8 BOLTS, 9 THIRDS, 10 whether she is GONE (1, 0), 11 whether the door is of IRON (1, 0), 12 LAZY, 13 TESTS, "
            + "14 SIGNS, 15 how long THE BOOK is, 16 how long the LOG is, 17 ACTS that can be UNDONE.");
        CraneCloth x = Check.house("d;d;bp17n9;b;b");
        Check.tell(x, 1, "y:1");
        Check.tell(x, 2, "c");
        Check.tell(x, 2, "c");
        Check.feed(x, "abcdefg");
        x.law(0);
        x.lazy(8);
        Check.weeks(x, "111111");
        x.cut();
        x.sell(0, 0);
        x.iron(true);
        for (int i = 0; i < 5; i++) {
            x.test(0, true);
        }
        for (int i = 0; i < 10; i++) {
            x.sign(0, 0, true);
        }
        Check.weeks(x, "3");
        x.undo();
        Check.weeks(x, "023");
        int[] want = {3, 2, 1, 2, 7, 0, 9, 20, 4, 3, 1, 1, 8, 5, 10, 6, 9, 12};
        for (int what = 0; what < want.length; what++) {
            Edge.due("count(" + what + ")", x.count(what), want[what]);
        }
    }

    private static void promise47_others() {
        Edge.of(47, "HIDDEN for others.");
        CraneCloth x = Check.house("b");
        Edge.due("count(-1)", x.count(-1), HIDDEN);
        Edge.due("count(18)", x.count(18), HIDDEN);
        for (int far : Edge.FAR) {
            Edge.due("count(" + far + ")", x.count(far), HIDDEN);
        }
        Edge.due("count(18) without a house", new CraneCloth().count(18), HIDDEN);
        Edge.due("count(17) without a house", new CraneCloth().count(17), 0);
    }

    private static void promise47_refusedChangesNothing() {
        Edge.of(47, "What is refused answers as told and changes nothing.");
        CraneCloth x = Check.house("sw9k9l10;dv99;bp60n1");
        Check.weeks(x, "12");
        x.sell(0, 0);
        Check.tell(x, 2, "c;w1");
        Check.tell(x, 1, "y:1");
        x.image();
        String before = Edge.state(x);
        x.week(1);
        x.week(3);
        x.week(4);
        x.cut();
        x.sell(0, 0);
        x.pay(0);
        x.iron(false);
        x.give(0);
        x.lives(0, 1);
        x.lives(61, 1);
        x.perform(0);
        x.law(1);
        x.lazy(10);
        x.test(3, true);
        x.sign(3, 0, true);
        x.sign(0, 100, true);
        x.text(0);
        x.text(1);
        x.text(2);
        x.end(1);
        Edge.same("all was refused", Edge.state(x), before);
    }
}
