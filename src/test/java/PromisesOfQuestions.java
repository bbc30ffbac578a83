/** Promises 24 to 44: what is asked apart from as it is, by answers worked out by hand. */
public final class PromisesOfQuestions {
    private static final int HIDDEN = -1000000;

    public static void main(String[] args) {
        homeless();
        weaving();
        weavingByLaw();
        stands();
        soonest();
        payingDebts();
        moon();
        market();
        ring();
        pieces();
        game();
        rests();
        tests();
        signs();
        asking();
        odds();
        owed();
        bears();
        best();
        thin();
        weaves();
        nothingChanges();
        Check.finish();
    }

    private static void homeless() {
        CraneCloth x = new CraneCloth();
        Check.due(24, "weaving", x.weaving(1, 1, 0), -1);
        Check.due(25, "stands", x.stands(), -1);
        Check.due(26, "soonest", x.soonest(1), -1);
        Check.due(27, "paying", x.paying(0), -1);
        Check.due(28, "moon", x.moon(), -1);
        Check.due(29, "market", x.market(0), -1);
        Check.due(30, "ring", x.ring(0), -1);
        Check.due(31, "pieces", x.pieces(0), HIDDEN);
        Check.due(32, "game", x.game(0, 0, 0), HIDDEN);
        Check.due(33, "rests", x.rests(-1), -1);
        Check.due(34, "test", x.test(0, true), -1);
        Check.due(35, "crane", x.crane(), -1);
        Check.due(36, "sign", x.sign(0, 0, true), -1);
        Check.due(37, "from", x.from(-1), -1);
        Check.due(38, "ask", x.ask(), -1);
        Check.due(39, "odds", x.odds(0, 0), -1);
        Check.due(40, "owed", x.owed(0), HIDDEN);
        Check.due(41, "bears", x.bears(0), -1);
        Check.due(42, "best", x.best(), -1);
        Check.due(43, "thin", x.thin(), -1);
        Check.due(44, "weaves", x.weaves(), -1);
    }

    private static void row(CraneCloth x, int n, int v, int row, int worth) {
        Check.due(24, "weaving(" + n + ", " + v + ", 0)", x.weaving(n, v, 0), row);
        Check.due(24, "weaving(" + n + ", " + v + ", 1)", x.weaving(n, v, 1), worth);
    }

    private static void weaving() {
        CraneCloth x = Check.house("sw20m30g4t8p3k2l6;b");
        row(x, 1, 20, 1, 20);
        row(x, 4, 20, 1112, 63);
        row(x, 2, 0, 22, 6);
        // a bolt is as good as a field: of several the least row
        row(x, 2, 3, 11, 6);
        row(x, 8, 0, 22222222, 24);
        int[][] refused = {{0, 0, 0}, {9, 0, 0}, {-1, 0, 0}, {1, -1, 0}, {1, 61, 0}, {1, 0, 2}, {1, 0, -1}};
        for (int[] r : refused) {
            Check.due(24, "weaving out of bounds", x.weaving(r[0], r[1], r[2]), -1);
        }
        Check.due(24, "weaving(8, 60, 1) is within", x.weaving(8, 60, 1) > 0, true);
        // nothing pays: all rest
        row(Check.house("sp0;b"), 5, 0, 0, 0);
        // she rests first to have down enough (8 is not more than 8)
        row(Check.house("sw8p0;b"), 2, 20, 1, 20);
        // a bolt that is there counts, one that was cut does not
        CraneCloth y = Check.house("sp1;b");
        Check.weeks(y, "11");
        y.cut();
        y.give(5);
        Check.weeks(y, "3");
        row(y, 3, 10, 222, 18);
        // more than 9999 is lost, so rest is as good
        CraneCloth rich = Check.house("sp9;b");
        Check.riches(rich, 9999);
        row(rich, 2, 0, 0, 9999);
        // with a doubt of 2 she leaves: a rest between, and the last bolt is one with which she does
        row(Check.house("sw60m60g9t1p0k0l2;b"), 4, 10, 1011, 30);
        row(Check.house("sw60m60g9t1p0k0l2;b"), 3, 10, 11, 20);
    }

    private static void weavingByLaw() {
        CraneCloth x = Check.house("sw20m30g0p1;b");
        // takes all but what is below week 2, then one
        Check.tell(x, 1, "y:y<2?60;y:1");
        x.law(0);
        row(x, 3, 5, 221, 7);
        // takes by money: dear as long as she is poor
        Check.tell(x, 1, "y:m<2?60;y:1");
        x.law(1);
        row(x, 4, 5, 2211, 12);
        // takes by what was woven
        Check.tell(x, 1, "y:n*12");
        x.law(2);
        row(x, 3, 5, 112, 11);
    }

    private static void stands() {
        Check.due(25, "stands()", Check.house("sw20m30g4t8p3k2l6;b").stands(), 3);
        Check.due(25, "gone with the second", Check.house("sk2l4w60m60;b").stands(), 2);
        Check.due(25, "gone with the first", Check.house("sk9l1;b").stands(), 1);
        Check.due(25, "not enough down", Check.house("sw8;b").stands(), 0);
        CraneCloth x = Check.house("sw60m60g9t1l20;b");
        Check.due(25, "eighteen till she leaves", x.stands(), 18);
        x.iron(true);
        Check.due(25, "sixty at most", x.stands(), 60);
        Check.weeks(x, "111");
        Check.due(25, "what the book still holds", x.stands(), 57);
        Check.weeks(x, "3");
        Check.due(25, "gone", x.stands(), 0);
        Check.due(25, "the week stays", x.count(6), 4);
    }

    private static void soonest() {
        CraneCloth x = Check.house("sw20m30g4t8p3k2l6;b");
        int[] want = {-1, 1, 2, 3, 5};
        for (int b = 1; b <= 4; b++) {
            Check.due(26, "soonest(" + b + ")", x.soonest(b), want[b]);
        }
        Check.due(26, "soonest(0)", x.soonest(0), -1);
        Check.due(26, "soonest(10)", x.soonest(10), -1);
        Check.due(26, "soonest(-1)", x.soonest(-1), -1);
        // with the first bolt she would leave: a week of rest ahead of it
        Check.due(26, "not gone", Check.house("sk2l3;b").soonest(1), 2);
        // doubt 1 at most: each bolt wants a rest but the first
        Check.due(26, "a rest for each", Check.house("sk0l2w60m60g9;b").soonest(9), 17);
        Check.due(26, "she can't stay", Check.house("sk0l1;b").soonest(1), -1);
        // down grows by 1, a bolt takes 20: from 0 to 21 in 21 weeks, the bolt is the 22nd
        Check.due(26, "soonest(1) slowly", Check.house("sw0m60g1t20;b").soonest(1), 22);
        Check.due(26, "thirty weeks", Check.house("sw0m60g1t14;b").soonest(2), 30);
        Check.due(26, "thirty-two weeks", Check.house("sw0m60g1t15;b").soonest(2), -1);
        Check.due(26, "thirty-one weeks", Check.house("sw1m60g1t15;b").soonest(2), -1);
        CraneCloth rich = Check.house("sw60m60g9t1l20;b");
        Check.due(26, "soonest(9) of a rich one", rich.soonest(9), 9);
        Check.due(26, "soonest(10) of a rich one", rich.soonest(10), -1);
        CraneCloth law = Check.house("sw20m30g4t8p3k2l6;b");
        Check.tell(law, 1, "y:y>3&k=0?1;y:60");
        law.law(0);
        Check.due(26, "by a law", law.soonest(1), 5);
        // rest and a bolt leave 18, a bolt and rest leave 20: only with 18 a second one can be
        CraneCloth lean = Check.house("sw20m20g3t5k2l9;b");
        Check.tell(lean, 1, "y:n=0?5;y:w=18&y=2&k=2?5;y:60");
        lean.law(0);
        Check.due(26, "soonest(2) with less down", lean.soonest(2), 3);
        Check.weeks(x, "3");
        Check.due(26, "gone", x.soonest(1), -1);
    }

    private static void pays(CraneCloth x, int set, int growth) {
        Check.due(27, "paying(0)", x.paying(0), set);
        Check.due(27, "paying(1)", x.paying(1), growth);
    }

    private static void payingDebts() {
        CraneCloth x = Check.house("dn2v10i2;dn1v10i3;dn9v5i9;dn1v7i2;b");
        pays(x, 0, 0);
        Check.weeks(x, "0");
        pays(x, 0, 5);
        // 10 and 7 are due now
        x.give(7);
        pays(x, 8, 3);
        x.give(3);
        pays(x, 2, 2);
        x.give(7);
        pays(x, 10, 0);
        Check.weeks(x, "0");
        // 10, 13, 9 with 17: of 2, 3, 2 the dearest more
        pays(x, 2, 4);
        x.give(2);
        // 13 for 3 or 10 and 9 for 2 and 2
        pays(x, 9, 3);
        x.pay(3);
        pays(x, 1, 3);
        x.pay(0);
        pays(x, 0, 3);
        Check.due(27, "paying(2)", x.paying(2), -1);
        Check.due(27, "paying(-1)", x.paying(-1), -1);
        // alike: the cheapest, then the least bits
        CraneCloth alike = Check.house("dn1v9i2;dn1v8i2;dn1v8i2;dn1v3i0;b");
        Check.weeks(alike, "0");
        alike.give(9);
        pays(alike, 2, 4);
        alike.give(90);
        pays(alike, 7, 0);
        // one more that costs and spares nothing is not paid
        CraneCloth idle = Check.house("dn1v9i0;dn5v8i2;b");
        Check.weeks(idle, "00");
        idle.give(99);
        pays(idle, 0, 0);
    }

    private static void moon() {
        CraneCloth x = Check.house("sp3;dn2v10;dn5v30;b");
        Check.due(28, "10 by week 2 with 6", x.moon(), 2);
        x.give(4);
        // 40 by week 5 with 4 and 15
        Check.due(28, "10 with 10, 40 with 19", x.moon(), 5);
        x.give(20);
        Check.due(28, "39 of 40", x.moon(), 5);
        x.give(1);
        Check.due(28, "40 of 40", x.moon(), -1);
        Check.weeks(x, "000");
        // 11 and 30 with 25 and 6 by week 5
        Check.due(28, "as they are now", x.moon(), 5);
        x.pay(0);
        Check.due(28, "14 and 6 of 30", x.moon(), 5);
        Check.weeks(x, "000");
        Check.due(28, "from this week on", x.moon(), 6);
        CraneCloth late = Check.house("sp0;dn60v1;b");
        Check.due(28, "sixty weeks later", late.moon(), 60);
        CraneCloth none = Check.house("sp0;b");
        Check.due(28, "no debts", none.moon(), -1);
        // due late: by then the field pays enough
        Check.due(28, "the field pays enough", Check.house("sp9;dn11v99;b").moon(), -1);
        Check.due(28, "the field does not", Check.house("sp9;dn10v99;b").moon(), 10);
    }

    private static void sales(CraneCloth x, int money, int cut) {
        Check.due(29, "market(0)", x.market(0), money);
        Check.due(29, "market(1)", x.market(1), cut);
    }

    private static CraneCloth withBolts(String buyers, int bolts) {
        CraneCloth x = Check.house("sw60m60g9t1l20;" + buyers);
        for (int i = 0; i < bolts; i++) {
            x.week(1);
        }
        return x;
    }

    private static void market() {
        sales(withBolts("b", 0), 0, 0);
        sales(withBolts("bp20q8n3", 1), 24, 1);
        sales(withBolts("bp24q8n3", 1), 24, 0);
        sales(withBolts("bp20q8n3", 2), 40, 0);
        sales(withBolts("bp20q8n4", 2), 44, 1);
        sales(withBolts("bp20q8n2", 3), 40, 0);
        // one bolt to the first, the other one cut for the second
        sales(withBolts("bp20q1n1;bp5q9n3", 2), 47, 1);
        // two thirds go at 9, the last one is worth nothing
        sales(withBolts("bp17q9n2", 1), 18, 1);
        sales(withBolts("bp18q9n2", 1), 18, 0);
        sales(withBolts("bp0q0n2", 2), 0, 0);
        CraneCloth x = withBolts("bp20q8n9", 3);
        Check.due(29, "market(2)", x.market(2), -1);
        Check.due(29, "market(-1)", x.market(-1), -1);
        sales(x, 72, 3);
        x.cut();
        sales(x, 72, 2);
        x.sell(0, 1);
        // two bolts and two thirds, eight wanted
        sales(x, 64, 2);
        x.sell(0, 0);
        // one bolt and two thirds, seven wanted
        sales(x, 40, 1);
        // 45 wanted by five, 18 bolts: 9 cut for 27 thirds and 9 bolts at 40, ..
        CraneCloth many = withBolts("bp40q10n9;bp30q10n9;bp9q10n9;bp9q10n9;bp9q10n9", 18);
        sales(many, 9 * 40 + 9 * 30, 0);
        many.cut();
        sales(many, 9 * 40 + 8 * 30 + 3 * 10, 0);
        sales(withBolts("bp1q10n9;bp1q10n9;bp1q10n9;bp1q10n9;bp1q10n9", 15), 450, 15);
        sales(withBolts("bp1q10n9;bp1q10n9;bp1q10n9;bp1q10n9;bp1q10n9", 17), 450, 15);
        // 14 cut for 42 thirds, the other three as bolts at 11
        sales(withBolts("bp11q10n9;bp11q10n9;bp1q10n9;bp1q10n9;bp1q10n9", 17), 453, 14);
    }

    private static void ring() {
        CraneCloth x = withBolts("bp20q9n2;bp15q4n9", 2);
        Check.due(30, "ring(0)", x.ring(0), 0);
        Check.due(30, "ring(1)", x.ring(1), 10);
        Check.due(30, "ring(2)", x.ring(2), 0);
        Check.due(30, "ring(3)", x.ring(3), 40);
        Check.due(30, "ring(4)", x.ring(4), -1);
        Check.due(30, "ring(-1)", x.ring(-1), -1);
        Check.due(30, "ring(31) of five", withBolts("b;b;b;b;b", 3).ring(31), 72);
    }

    private static void pieces() {
        CraneCloth x = Check.house("bp20q8;bp10q6;bp1q3;bp60q0");
        Check.due(31, "pieces(0)", x.pieces(0), 1);
        Check.due(31, "pieces(1)", x.pieces(1), 8);
        Check.due(31, "pieces(2)", x.pieces(2), HIDDEN);
        Check.due(31, "pieces(-1)", x.pieces(-1), HIDDEN);
        Check.due(31, "below 0", Check.house("bp60q0").pieces(1), -60);
        CraneCloth y = Check.house("bp1q1n1;bp9q1");
        Check.weeks(y, "1");
        y.sell(0, 0);
        Check.due(31, "who wants no more counts too", y.pieces(0), 0);
    }

    private static void game() {
        int[][] want = {{2, 4}, {3, 5}, {6, 0}, {3, 1}};
        for (int doubt = 0; doubt <= 9; doubt++) {
            CraneCloth x = Check.house("sk" + doubt + ";b");
            for (int who = 0; who < 2; who++) {
                Check.due(32, "neither with doubt " + doubt, x.game(0, 0, who), want[0][who] - doubt / 3);
                Check.due(32, "she shows", x.game(0, 1, who), want[1][who]);
                Check.due(32, "he looks", x.game(1, 0, who), want[2][who]);
                Check.due(32, "both", x.game(1, 1, who), want[3][who]);
            }
        }
        CraneCloth x = Check.house("sk2;b");
        int[][] refused = {{-1, 0, 0}, {2, 0, 0}, {0, -1, 0}, {0, 2, 0}, {0, 0, -1}, {0, 0, 2}};
        for (int[] r : refused) {
            Check.due(32, "game out of bounds", x.game(r[0], r[1], r[2]), HIDDEN);
        }
        Check.weeks(x, "1");
        Check.due(32, "doubt as it is", x.game(0, 0, 0), 1);
    }

    private static void rests() {
        CraneCloth x = Check.house("b");
        Check.due(33, "rests(-1)", x.rests(-1), 2);
        Check.due(33, "rests(0)", x.rests(0), 1);
        Check.due(33, "rests(1)", x.rests(1), 11);
        Check.due(33, "rests(2)", x.rests(2), -1);
        Check.due(33, "rests(-2)", x.rests(-2), -1);
    }

    private static void tests() {
        int[][] want = {{818181, 111111}, {727272, 222222}, {545454, 444444}};
        for (int sort = 0; sort < 3; sort++) {
            for (int is = 0; is < 2; is++) {
                CraneCloth x = Check.house("b");
                Check.due(35, "crane() at first", x.crane(), 500000);
                Check.due(34, "test", x.test(sort, is == 0), 1);
                Check.due(35, "crane() by " + sort + " " + (is == 0), x.crane(), want[sort][is]);
            }
        }
        CraneCloth x = Check.house("b");
        Check.due(34, "test(3, true)", x.test(3, true), -1);
        Check.due(34, "test(-1, true)", x.test(-1, true), -1);
        for (int i = 1; i <= 12; i++) {
            Check.due(34, "test " + i, x.test(0, true), i);
        }
        Check.due(34, "a thirteenth", x.test(0, true), -1);
        // 9^12 of 9^12 and 2^12
        Check.due(35, "crane() of twelve", x.crane(), 999999);
        Check.due(35, "refused, twelve", x.count(13), 12);
        // (9 * 2 * 4) of that and (2 * 7 * 5)
        CraneCloth y = Check.house("b");
        y.test(0, true);
        y.test(1, false);
        y.test(2, false);
        Check.due(35, "crane() of three", y.crane(), 507042);
    }

    /** Bolts of weeks 0, 1, 3, 4, with down 30, 25, 23, 18, and 8 each. */
    private static CraneCloth woven() {
        CraneCloth x = Check.house("sl20;b");
        Check.weeks(x, "11");
        Check.weeks(x, "211");
        return x;
    }

    private static void signs() {
        CraneCloth x = woven();
        Check.due(37, "from(-1) without signs", x.from(-1), 4);
        Check.due(36, "sign(-1, 0)", x.sign(-1, 0, true), -1);
        Check.due(36, "sign(3, 0)", x.sign(3, 0, true), -1);
        Check.due(36, "sign(0, -1)", x.sign(0, -1, true), -1);
        Check.due(36, "sign(0, 100)", x.sign(0, 100, true), -1);
        Check.due(36, "sign(1, 24, false)", x.sign(1, 24, false), 1);
        Check.due(37, "from(-1)", x.from(-1), 2);
        Check.due(37, "from(0)", x.from(0), 2);
        Check.due(37, "from(1)", x.from(1), 3);
        Check.due(37, "from(2)", x.from(2), -1);
        Check.due(37, "from(-2)", x.from(-2), -1);
        Check.due(36, "sign(0, 4, true)", x.sign(0, 4, true), 2);
        Check.due(37, "from(0)", x.from(0), 3);
        Check.due(37, "from(-1)", x.from(-1), 1);
        Check.due(36, "sign(2, 8, true)", x.sign(2, 8, true), 3);
        Check.due(37, "8 or more", x.from(-1), 1);
        Check.due(36, "sign(2, 8, false)", x.sign(2, 8, false), 4);
        Check.due(37, "none", x.from(-1), 0);
        Check.due(37, "from(0) of none", x.from(0), -1);
        Check.due(38, "ask() of none", x.ask(), -1);
        for (int i = 5; i <= 10; i++) {
            Check.due(36, "sign " + i, x.sign(0, 99, false), i);
        }
        Check.due(36, "an eleventh", x.sign(0, 0, true), -1);
        Check.due(36, "refused, ten", x.count(14), 10);
        CraneCloth y = woven();
        y.sign(1, 23, true);
        Check.due(37, "23 or more", y.from(-1), 3);
        y.undo();
        y.undo();
        Check.due(37, "undone", y.from(-1), 2);
        Check.due(36, "signs stay", y.count(14), 1);
    }

    private static void asking() {
        Check.due(38, "ask() without a bolt", Check.house("b").ask(), -1);
        CraneCloth x = woven();
        // weeks 0, 1, 3, 4: from 2 on two and two
        Check.due(38, "ask()", x.ask(), 2);
        x.sign(0, 1, true);
        // 1, 3, 4: two and one by 2
        Check.due(38, "ask() of three", x.ask(), 2);
        x.sign(0, 4, false);
        Check.due(38, "ask() of two", x.ask(), 2);
        x.sign(1, 24, true);
        Check.due(38, "ask() of one", x.ask(), 0);
        // two bolts behind week 99: by down
        CraneCloth y = Check.house("sm60w60g1;b");
        y.lazy(9);
        for (int i = 0; i < 100; i++) {
            y.week(0);
        }
        Check.weeks(y, "11");
        // weeks 100 and 101, down 60 and 53
        Check.due(38, "ask() by down", y.ask(), 154);
        // weeks 100 and 101, down 60 both times, 1 and 2 taken
        CraneCloth z = Check.house("sm60w60g9;b");
        Check.tell(z, 1, "y:y-99");
        z.law(0);
        for (int i = 0; i < 100; i++) {
            z.week(0);
        }
        Check.weeks(z, "11");
        Check.due(38, "ask() by what it took", z.ask(), 202);
    }

    private static void odds() {
        CraneCloth x = Check.house("b");
        Check.due(39, "odds(0, 100)", x.odds(0, 100), 1000000000);
        Check.due(39, "odds(1, 100)", x.odds(1, 100), 0);
        Check.due(39, "odds(30, 0)", x.odds(30, 0), 1000000000);
        Check.due(39, "odds(1, 1)", x.odds(1, 1), 990000000);
        Check.due(39, "odds(3, 10)", x.odds(3, 10), 729000000);
        // 970299000, 960596010, 950990050 (9605960.1 is cut), ..
        Check.due(39, "odds(5, 1)", x.odds(5, 1), 950990050);
        Check.due(39, "odds(31, 0)", x.odds(31, 0), -1);
        Check.due(39, "odds(-1, 0)", x.odds(-1, 0), -1);
        Check.due(39, "odds(0, 101)", x.odds(0, 101), -1);
        Check.due(39, "odds(0, -1)", x.odds(0, -1), -1);
        Check.weeks(x, "3");
        Check.due(39, "gone", x.odds(0, 0), 0);
        Check.due(39, "gone", x.odds(5, 1), 0);
    }

    private static void owed() {
        CraneCloth x = Check.house("dn4v10i1;dn2v20i3;dn2v5i0;b");
        Check.due(40, "owed(0)", x.owed(0), 35);
        Check.due(40, "owed(1)", x.owed(1), 0);
        Check.due(40, "owed(2)", x.owed(2), 1);
        Check.due(40, "owed(3)", x.owed(3), HIDDEN);
        Check.due(40, "owed(-1)", x.owed(-1), HIDDEN);
        Check.weeks(x, "00");
        Check.due(40, "due now is not late", x.owed(1), 0);
        Check.weeks(x, "0");
        Check.due(40, "owed(0) late", x.owed(0), 38);
        Check.due(40, "owed(1) late", x.owed(1), 6);
        Check.weeks(x, "00");
        Check.due(40, "all are late", x.owed(1), 7);
        x.undo();
        x.undo();
        Check.riches(x, 99);
        x.pay(1);
        Check.due(40, "owed(0)", x.owed(0), 15);
        Check.due(40, "owed(1)", x.owed(1), 4);
        Check.due(40, "owed(2)", x.owed(2), 2);
        x.pay(2);
        Check.due(40, "owed(2)", x.owed(2), 0);
        x.pay(0);
        Check.due(40, "owed(0) of none", x.owed(0), 0);
        Check.due(40, "owed(2) of none", x.owed(2), -1);
        Check.due(40, "due in 60", Check.house("dn60v9;b").owed(0), 9);
    }

    private static void bears() {
        CraneCloth x = Check.house("sw20m30g4;b");
        Check.due(41, "bears(0)", x.bears(0), 0);
        Check.due(41, "bears(20)", x.bears(20), 0);
        Check.due(41, "bears(21)", x.bears(21), 1);
        Check.due(41, "bears(28)", x.bears(28), 2);
        Check.due(41, "bears(30)", x.bears(30), 3);
        Check.due(41, "bears(31)", x.bears(31), -1);
        Check.due(41, "bears(61)", x.bears(61), -1);
        Check.due(41, "bears(-1)", x.bears(-1), -1);
        Check.due(41, "sixty weeks", Check.house("sw0m60g1;b").bears(60), 60);
        Check.due(41, "it never grows", Check.house("sg0;b").bears(31), -1);
        // doubt 9 drives her away whatever she rests
        Check.due(41, "she leaves", Check.house("sk9l5;b").bears(31), -1);
        Check.weeks(x, "3");
        Check.due(41, "gone", x.bears(21), -1);
        Check.due(41, "gone, but it is there", x.bears(20), 0);
    }

    private static void best() {
        CraneCloth x = Check.house("bp10n1;bp30n1;bp30n1;bp20n1");
        Check.weeks(x, "111");
        int[] want = {1, 2, 3, 0};
        for (int buyer : want) {
            Check.due(42, "best()", x.best(), buyer);
            x.sell(buyer, 0);
        }
        CraneCloth y = Check.house("bn1");
        Check.weeks(y, "1");
        y.sell(0, 0);
        Check.due(42, "nobody wants", y.best(), -1);
        Check.due(44, "nobody wants", y.weaves(), -1);
    }

    private static void thin() {
        CraneCloth x = Check.house("sw20m30g4t8l20;b");
        Check.due(43, "nothing woven", x.thin(), -1);
        Check.weeks(x, "2221");
        Check.due(43, "thin()", x.thin(), 3);
        // down 26, then 30 and 26 again
        Check.weeks(x, "1");
        Check.due(43, "down 26", x.thin(), 4);
        Check.weeks(x, "2");
        Check.weeks(x, "1");
        Check.due(43, "26 again: the earliest", x.thin(), 4);
        Check.weeks(x, "1");
        Check.due(43, "22", x.thin(), 7);
        x.undo();
        Check.due(43, "undone", x.thin(), 4);
    }

    private static void weaves() {
        // 8 down by 3 a week are 3 weeks: 9 by the field
        Check.due(44, "10 is more", Check.house("bp10").weaves(), 1);
        Check.due(44, "9 is not more", Check.house("bp9").weaves(), 0);
        Check.due(44, "by the best", Check.house("bp1;bp10").weaves(), 1);
        // 8 by 4 are 2 weeks
        Check.due(44, "7 is more than 6", Check.house("sg4;bp7").weaves(), 1);
        Check.due(44, "6 is not", Check.house("sg4;bp6").weaves(), 0);
        // 7 by 3 are 3 weeks, 9 by 3 as well, 8 by 1 are 8
        Check.due(44, "10 is more, 7 down", Check.house("st7;bp10").weaves(), 1);
        Check.due(44, "9 is not, 7 down", Check.house("st7;bp9").weaves(), 0);
        Check.due(44, "10 is more, 9 down", Check.house("st9;bp10").weaves(), 1);
        Check.due(44, "25 is more than 24", Check.house("sg1;bp25").weaves(), 1);
        Check.due(44, "24 is not", Check.house("sg1;bp24").weaves(), 0);
        Check.due(44, "by the second of two", Check.house("sg1;bp24;bp25").weaves(), 1);
        // it never grows: one week
        Check.due(44, "4 is more than 3", Check.house("sg0;bp4").weaves(), 1);
        Check.due(44, "3 is not", Check.house("sg0;bp3").weaves(), 0);
        CraneCloth x = Check.house("bp1");
        Check.tell(x, 1, "y:0");
        x.law(0);
        Check.due(44, "a bolt takes nothing", x.weaves(), 1);
        Check.due(44, "the field pays nothing", Check.house("sp0;bp0").weaves(), 0);
    }

    private static void nothingChanges() {
        CraneCloth x = Check.house("dn1v9;bp20q9n2;bp15q4n9");
        Check.tell(x, 2, "w1;w2;c;s00;p0;w3");
        Check.weeks(x, "112");
        x.cut();
        String before = Check.seen(x);
        x.run(0, 0);
        x.weaving(5, 20, 0);
        x.stands();
        x.soonest(3);
        x.paying(0);
        x.moon();
        x.market(0);
        x.ring(1);
        x.pieces(0);
        x.game(0, 0, 0);
        x.rests(0);
        x.crane();
        x.from(0);
        x.ask();
        x.odds(3, 3);
        x.owed(0);
        x.bears(40);
        x.best();
        x.thin();
        x.weaves();
        x.image();
        Check.same(24, "what is asked changes nothing", Check.seen(x), before);
    }
}
