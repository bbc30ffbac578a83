/** Boundary cases of debts and of buyers (promises 27 to 31, 40, 42). */
final class EdgesOfDebts {
    private static final int NONE = Edge.NONE;
    private static final int HIDDEN = Edge.HIDDEN;

    private EdgesOfDebts() {
    }

    static void all() {
        promise27_refused();
        promise27_enoughNow();
        promise27_dueNowOrWere();
        promise27_cheapestThenLeastBits();
        promise28_refused();
        promise28_moreThan();
        promise28_fromThisOneOn();
        promise28_asTheyAreNow();
        promise29_refused();
        promise29_asThereAre();
        promise29_fewestCut();
        promise29_most();
        promise30_refused();
        promise30_without();
        promise31_refused();
        promise31_lowest();
        promise40_refused();
        promise40_owed();
        promise40_late();
        promise40_next();
        promise42_best();
    }

    private static void pays(String when, CraneCloth x, int set, int growth) {
        Edge.due(when + ": paying(0)", x.paying(0), set);
        Edge.due(when + ": paying(1)", x.paying(1), growth);
    }

    private static void promise27_refused() {
        Edge.of(27, "no HOUSE");
        Edge.due("paying(0)", new CraneCloth().paying(0), NONE);
        Edge.due("paying(1)", new CraneCloth().paying(1), NONE);
        Edge.of(27, "no such what");
        CraneCloth x = Check.house("b");
        Edge.due("paying(-1)", x.paying(-1), NONE);
        Edge.due("paying(2)", x.paying(2), NONE);
        for (int far : Edge.FAR) {
            Edge.due("paying(" + far + ")", x.paying(far), NONE);
        }
        pays("no debts", x, 0, 0);
    }

    private static void promise27_enoughNow() {
        Edge.of(27, "sets of DEBTS not PAID (bits) that MONEY is enough for now");
        CraneCloth x = Check.house("dn1v10i2;dn2v10i5;b");
        Check.weeks(x, "00");
        // 12 and 10 are owed
        pays("nothing", x, 0, 7);
        x.give(9);
        pays("9 of 10", x, 0, 7);
        x.give(1);
        pays("10 of 10", x, 2, 2);
        x.give(11);
        pays("21 of 22", x, 2, 2);
        x.give(1);
        pays("22 of 22", x, 3, 0);
        x.pay(1);
        pays("one is paid", x, 1, 0);
        x.pay(0);
        pays("both are paid", x, 0, 0);
        CraneCloth six = Check.house("dn1v1;dn1v1;dn1v1;dn1v1;dn1v1;dn1v1;b");
        Check.weeks(six, "0");
        six.give(5);
        pays("five of six", six, 31, 1);
        six.give(1);
        pays("six of six", six, 63, 0);
    }

    private static void promise27_dueNowOrWere() {
        Edge.of(27, "(their more, if they are DUE now or were; of several the cheapest, then the least bits)");
        CraneCloth x = Check.house("dn2v5i3;b");
        x.give(5);
        Check.weeks(x, "0");
        pays("a week ahead of it", x, 0, 0);
        Check.weeks(x, "0");
        pays("due now", x, 1, 0);
        Check.weeks(x, "0");
        pays("due before, 8 by now", x, 0, 3);
        x.give(3);
        pays("8 of 8", x, 1, 0);
        CraneCloth late = Edge.inWeek(999, "dn1v1i1;b");
        pays("in week 999", late, 0, 1);
        Check.riches(late, 999);
        pays("999 in week 999", late, 1, 0);
    }

    private static void promise27_cheapestThenLeastBits() {
        Edge.of(27, "of several the cheapest, then the least bits");
        CraneCloth x = Check.house("dn1v9i2;dn1v8i2;dn1v8i2;b");
        Check.weeks(x, "0");
        x.give(9);
        pays("the cheapest, then the least", x, 2, 4);
        CraneCloth sets = Check.house("dn1v4i1;dn1v6i1;dn1v10i2;b");
        Check.weeks(sets, "0");
        sets.give(10);
        pays("two for 10 or one for 10", sets, 3, 2);
        CraneCloth turned = Check.house("dn1v10i2;dn1v6i1;dn1v4i1;b");
        Check.weeks(turned, "0");
        turned.give(10);
        pays("one for 10 or two for 10", turned, 1, 2);
        CraneCloth idle = Check.house("dn1v1i0;dn9v1i9;b");
        Check.weeks(idle, "00");
        idle.give(99);
        pays("what does not grow is not paid", idle, 0, 0);
    }

    private static void promise28_refused() {
        Edge.of(28, "no HOUSE");
        Edge.due("moon()", new CraneCloth().moon(), NONE);
        Edge.of(28, "there is none");
        Edge.due("no debts", Check.house("b").moon(), NONE);
        Edge.due("the field pays enough", Check.house("sp9;dn11v99;b").moon(), NONE);
        CraneCloth x = Check.house("sp0;dn5v9;b");
        x.give(9);
        Edge.due("money is enough", x.moon(), NONE);
        x.pay(0);
        Edge.due("all is paid", x.moon(), NONE);
    }

    private static void promise28_moreThan() {
        Edge.of(28, "together are more than MONEY and what the FIELD pays in each WEEK till W");
        Edge.due("10 by week 3 with 9", Check.house("sp3;dn3v10;b").moon(), 3);
        Edge.due("9 by week 3 with 9", Check.house("sp3;dn3v9;b").moon(), NONE);
        CraneCloth x = Check.house("sp1;dn2v5;dn4v5;dn6v5;b");
        Edge.due("5 by 2 with 2", x.moon(), 2);
        x.give(3);
        Edge.due("5 by 2 with 5, 10 by 4 with 7", x.moon(), 4);
        x.give(2);
        Edge.due("10 by 4 with 9", x.moon(), 4);
        x.give(1);
        Edge.due("10 by 4 with 10, 15 by 6 with 12", x.moon(), 6);
        x.give(2);
        Edge.due("15 by 6 with 14", x.moon(), 6);
        x.give(1);
        Edge.due("15 by 6 with 15", x.moon(), NONE);
        Check.weeks(x, "2");
        Edge.due("a week of the field later", x.moon(), NONE);
        x.undo();
        Check.weeks(x, "0");
        Edge.due("a week of rest later", x.moon(), 6);
    }

    private static void promise28_fromThisOneOn() {
        Edge.of(28, "the first WEEK W from this one on (up to 60 later)");
        Edge.due("60 later", Check.house("sp0;dn60v1;b").moon(), 60);
        Edge.due("1 later", Check.house("sp0;dn1v1;b").moon(), 1);
        CraneCloth x = Check.house("sp9;dn1v1;b");
        Check.weeks(x, "0");
        Edge.due("this week: the field has not paid yet", x.moon(), 1);
        Check.weeks(x, "0");
        Edge.due("late: this week", x.moon(), 2);
        CraneCloth last = Edge.inWeek(999, "dn1v1i0;b");
        Edge.due("this week, 999", last.moon(), 999);
        last.give(1);
        Edge.due("none from 999 on", last.moon(), NONE);
        CraneCloth far = Check.house("sp0;dn60v1;b");
        Check.weeks(far, "000");
        Edge.due("57 later", far.moon(), 60);
    }

    private static void promise28_asTheyAreNow() {
        Edge.of(28, "DUE by W, as they are now (at least their SUM)");
        CraneCloth x = Check.house("sp0;dn1v5i9;dn4v6i9;b");
        Check.weeks(x, "00");
        x.give(14);
        // 14 is owed now; 6 more are due in week 4, with nothing for weeks late by then
        Edge.due("14 of 14 now, 20 by 4", x.moon(), 4);
        x.give(6);
        Edge.due("20 of 20", x.moon(), NONE);
        x.undo();
        x.pay(0);
        Edge.due("what is paid does not count", x.moon(), 4);
        x.give(6);
        Edge.due("6 of 6", x.moon(), NONE);
    }

    private static CraneCloth withBolts(String buyers, int bolts) {
        CraneCloth x = Check.house("sw60m60g9t1l20;" + buyers);
        x.iron(true);
        for (int i = 0; i < bolts; i++) {
            x.week(1);
        }
        return x;
    }

    private static void sales(String when, CraneCloth x, int money, int cut) {
        Edge.due(when + ": market(0)", x.market(0), money);
        Edge.due(when + ": market(1)", x.market(1), cut);
    }

    private static void promise29_refused() {
        Edge.of(29, "no HOUSE");
        Edge.due("market(0)", new CraneCloth().market(0), NONE);
        Edge.due("market(1)", new CraneCloth().market(1), NONE);
        Edge.of(29, "no such what");
        CraneCloth x = Check.house("b");
        Edge.due("market(-1)", x.market(-1), NONE);
        Edge.due("market(2)", x.market(2), NONE);
        for (int far : Edge.FAR) {
            Edge.due("market(" + far + ")", x.market(far), NONE);
        }
    }

    private static void promise29_asThereAre() {
        Edge.of(29, "all sales of BOLTS and THIRDS as there are, BOLTS CUT or not, to BUYERS by what each WANTS still");
        sales("nothing", withBolts("b", 0), 0, 0);
        sales("one bolt", withBolts("bp25q8n3", 1), 25, 0);
        sales("one bolt, cut", withBolts("bp23q8n3", 1), 24, 1);
        sales("it wants two", withBolts("bp15q8n2", 1), 16, 1);
        sales("it wants one", withBolts("bp15q8n1", 1), 15, 0);
        CraneCloth x = withBolts("bp20q9n2", 3);
        sales("three bolts, two wanted", x, 40, 0);
        x.sell(0, 0);
        sales("one wanted", x, 20, 0);
        x.sell(0, 0);
        sales("none wanted", x, 0, 0);
        CraneCloth thirds = withBolts("bp60q10n9", 1);
        thirds.cut();
        sales("thirds are no bolt again", thirds, 30, 0);
        CraneCloth rich = withBolts("bp60n9", 1);
        Check.riches(rich, 9999);
        sales("MONEY of the sales together", rich, 60, 0);
        CraneCloth gone = withBolts("bp60n9", 1);
        Check.weeks(gone, "3");
        sales("gone", gone, 60, 0);
    }

    private static void promise29_fewestCut() {
        Edge.of(29, "the most MONEY together; the fewest CUT for that");
        sales("24 or 24", withBolts("bp24q8n3", 1), 24, 0);
        sales("16 or 16", withBolts("bp16q8n2", 1), 16, 0);
        sales("thirds for nothing", withBolts("bp0q0n9", 3), 0, 0);
        CraneCloth x = withBolts("bp10q5n4", 2);
        // four thirds: two cut; a bolt and three thirds: one cut
        sales("25 by one cut, 20 by two", x, 25, 1);
        x.cut();
        sales("one is cut already", x, 25, 0);
        sales("three of five thirds of the second", withBolts("bp0q9n5", 2), 45, 2);
        sales("the third that is left over", withBolts("bp0q9n4", 2), 36, 2);
    }

    private static void promise29_most() {
        Edge.of(29, "MARKET: MONEY (0), CUT (1).");
        String five = "bp60q30n9;bp60q30n9;bp60q30n9;bp60q30n9;bp60q30n9";
        sales("45 wanted, 15 cut", withBolts(five, 15), 1350, 15);
        sales("45 wanted, 60 bolts", withBolts(five, 60), 2700, 0);
        sales("45 thirds of 60 bolts", withBolts(five.replace("p60", "p29"), 60), 1350, 15);
        CraneCloth thirds = withBolts(five.replace("p60", "p0"), 20);
        for (int i = 0; i < 20; i++) {
            thirds.cut();
        }
        sales("45 of 60 thirds", thirds, 1350, 0);
    }

    private static void promise30_refused() {
        Edge.of(30, "no HOUSE");
        Edge.due("ring(0)", new CraneCloth().ring(0), NONE);
        Edge.of(30, "no such set");
        CraneCloth x = Check.house("b;b");
        Edge.due("ring(-1)", x.ring(-1), NONE);
        Edge.due("ring(4) of two", x.ring(4), NONE);
        Edge.due("ring(3) of two", x.ring(3), 0);
        Edge.due("ring(2) of one", Check.house("b").ring(2), NONE);
        Edge.due("ring(32) of five", Check.house("b;b;b;b;b").ring(32), NONE);
        Edge.due("ring(31) of five", Check.house("b;b;b;b;b").ring(31), 0);
        for (int far : Edge.FAR) {
            Edge.due("ring(" + far + ")", x.ring(far), NONE);
        }
    }

    private static void promise30_without() {
        Edge.of(30, "RING for a set of BUYERS (bits): how much less MARKET is without these");
        CraneCloth x = withBolts("bp20q0n1;bp15q0n1;bp10q0n1", 2);
        int[] want = {0, 10, 5, 25, 0, 20, 15, 35};
        for (int set = 0; set < 8; set++) {
            Edge.due("ring(" + set + ")", x.ring(set), want[set]);
        }
        x.sell(0, 0);
        Edge.due("who wants no more", x.ring(1), 0);
        Edge.due("all", x.ring(7), 15);
    }

    private static void promise31_refused() {
        Edge.of(31, "no HOUSE");
        Edge.due("pieces(0)", new CraneCloth().pieces(0), HIDDEN);
        Edge.due("pieces(1)", new CraneCloth().pieces(1), HIDDEN);
        Edge.of(31, "no such what");
        CraneCloth x = Check.house("b");
        Edge.due("pieces(-1)", x.pieces(-1), HIDDEN);
        Edge.due("pieces(2)", x.pieces(2), HIDDEN);
        for (int far : Edge.FAR) {
            Edge.due("pieces(" + far + ")", x.pieces(far), HIDDEN);
        }
    }

    private static void piece(String buyers, int buyer, int gain) {
        CraneCloth x = Check.house(buyers);
        Edge.due("pieces(0) of " + buyers, x.pieces(0), buyer);
        Edge.due("pieces(1) of " + buyers, x.pieces(1), gain);
    }

    private static void promise31_lowest() {
        Edge.of(31, "the BUYER who pays most for a THIRD times three less what that one pays for a BOLT (of several the lowest)");
        piece("bp60q0", 0, -60);
        piece("bp0q30", 0, 90);
        piece("bp3q2;bp0q1;bp6q3", 0, 3);
        piece("bp4q2;bp0q1;bp6q3", 1, 3);
        piece("bp60q0;bp59q0;bp60q0", 1, -59);
        piece("b;b;b;b;bp19", 4, 5);
        CraneCloth x = Check.house("bp1q1n1;bp9q1");
        Check.weeks(x, "1");
        x.sell(0, 0);
        Edge.due("who wants no more counts too", x.pieces(0), 0);
    }

    private static void promise40_refused() {
        Edge.of(40, "no HOUSE");
        for (int what = 0; what <= 2; what++) {
            Edge.due("owed(" + what + ")", new CraneCloth().owed(what), HIDDEN);
        }
        Edge.of(40, "no such what");
        CraneCloth x = Check.house("d;b");
        Edge.due("owed(-1)", x.owed(-1), HIDDEN);
        Edge.due("owed(3)", x.owed(3), HIDDEN);
        for (int far : Edge.FAR) {
            Edge.due("owed(" + far + ")", x.owed(far), HIDDEN);
        }
    }

    private static void promise40_owed() {
        Edge.of(40, "OWED: all DEBTS not PAID as they are now.");
        Edge.due("no debts", Check.house("b").owed(0), 0);
        CraneCloth x = Check.house("dn1v5i2;dn60v7;b");
        Edge.due("at first", x.owed(0), 12);
        Check.weeks(x, "0");
        Edge.due("due now", x.owed(0), 12);
        Check.weeks(x, "0");
        Edge.due("a week late", x.owed(0), 14);
        x.give(14);
        x.pay(0);
        Edge.due("one is paid", x.owed(0), 7);
        x.pay(1);
        Edge.due("all are paid", x.owed(0), 0);
        CraneCloth most = Edge.inWeek(999, "dn1v99i9;dn1v99i9;dn1v99i9;dn1v99i9;dn1v99i9;dn1v99i9;b");
        Edge.due("the most", most.owed(0), 6 * (99 + 998 * 9));
    }

    private static void promise40_late() {
        Edge.of(40, "LATE: DEBTS (bits) not PAID that are later than DUE.");
        CraneCloth x = Check.house("dn1v1;dn2v1;dn1v1i0;dn1v1;dn1v1;dn1v1;b");
        Edge.due("week 0", x.owed(1), 0);
        Check.weeks(x, "0");
        Edge.due("due now", x.owed(1), 0);
        Check.weeks(x, "0");
        Edge.due("a week late", x.owed(1), 61);
        Check.weeks(x, "0");
        Edge.due("all six", x.owed(1), 63);
        x.give(9);
        x.pay(5);
        Edge.due("one is paid", x.owed(1), 31);
    }

    private static void promise40_next() {
        Edge.of(40, "NEXT: the DEBT not PAID that is DUE first (of several the lowest).");
        CraneCloth x = Check.house("dn3v1;dn2v1;dn2v1;dn1v1;b");
        x.give(9);
        for (int next : new int[] {3, 1, 2, 0}) {
            Edge.due("next", x.owed(2), next);
            x.pay(next);
        }
        Edge.of(40, "NEXT (2; NONE: none)");
        Edge.due("all are paid", x.owed(2), NONE);
        Edge.due("no debts", Check.house("b").owed(2), NONE);
        CraneCloth late = Check.house("dn2v1;dn1v1;b");
        Check.weeks(late, "000");
        Edge.due("late ones too", late.owed(2), 1);
    }

    private static void promise42_best() {
        Edge.of(42, "no HOUSE");
        Edge.due("best()", new CraneCloth().best(), NONE);
        Edge.of(42, "BEST: the BUYER with the best price for a BOLT who WANTS still (of several the lowest)");
        CraneCloth x = withBolts("bp0n1;bp30n1;bp10n1;bp30n1;bp29q30n1", 5);
        for (int best : new int[] {1, 3, 4, 2, 0}) {
            Edge.due("best()", x.best(), best);
            x.sell(best, 0);
        }
        Edge.of(42, "nobody WANTS");
        Edge.due("best()", x.best(), NONE);
        x.undo();
        Edge.due("undone", x.best(), 0);
    }
}
