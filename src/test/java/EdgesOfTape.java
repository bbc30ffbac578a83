/** Boundary cases of promises 1 to 5, 9 and 10: a new object, the tape, what is told and what holds. */
final class EdgesOfTape {
    private static final int NONE = Edge.NONE;
    private static final int BLANKS = 0x20202020;

    private EdgesOfTape() {
    }

    static void all() {
        promise1_newObject();
        promise2_highestFirst();
        promise2_zerosLeftOut();
        promise2_howMany();
        promise2_moreThan240();
        promise3_firstBytesAlone();
        promise3_refused();
        promise4_noSuchSort();
        promise4_noneAndNothingChanges();
        promise5_answers();
        promise5_tapeIsEmptyThen();
        promise5_whatIsGoneAndWhatIsNot();
        promise5_fault();
        promise5_noSuchSort();
        promise5_fourLaws();
        promise5_fourPlans();
        promise9_laws();
        promise10_lazy();
        promise10_refused();
    }

    private static void promise1_newObject() {
        Edge.of(1, "No HOUSE.");
        CraneCloth x = new CraneCloth();
        int[] want = {0, 0, 0, 0, 0, NONE, 0, 0, 0, 0, 0, 0, 2, 0, 0, 0, 0, 0};
        for (int what = 0; what < want.length; what++) {
            Edge.due("count(" + what + ")", x.count(what), want[what]);
        }
        Edge.due("fault(0) of the empty tape", x.fault(0), 0);
        Edge.due("fault(1) of the empty tape", x.fault(1), 0);
        Edge.due("fault(2) of the empty tape", x.fault(2), 0);
        Edge.due("the law that holds can be none", x.law(NONE), true);
        Edge.of(1, "A new object");
        CraneCloth other = Check.house("bp1;b");
        Check.weeks(other, "12");
        Edge.due("count(0) beside another one", x.count(0), 0);
        Edge.due("count(6) beside another one", x.count(6), 0);
        Edge.due("count(0) of one made later", new CraneCloth().count(0), 0);
    }

    private static void promise2_highestFirst() {
        Edge.of(2, "of each number the highest first");
        CraneCloth x = new CraneCloth();
        Edge.due("four bytes b ; b x", x.feed(0x623b6278, 0, 0, 0, 0), 4);
        Edge.due("the x is the last of them", x.fault(0), 3);
        x.end(0);
        Edge.of(2, "Twenty bytes more come to the TAPE");
        Edge.due("twenty bytes", x.feed(0x623b623b, 0x623b623b, BLANKS, BLANKS, 0x20202062), 20);
        Edge.due("the five numbers in their order", x.text(0), 5);
        Edge.due("a wrong byte in the first number", x.feed(0x783b623b, BLANKS, BLANKS, BLANKS, BLANKS), 20);
        Edge.due("it is byte 0", x.fault(0), 0);
        Edge.due("twenty more", x.feed(BLANKS, BLANKS, BLANKS, BLANKS, BLANKS), 40);
    }

    private static void promise2_zerosLeftOut() {
        Edge.of(2, "bytes of 0 are left out");
        CraneCloth x = new CraneCloth();
        Edge.due("b ; b x with zeros between", x.feed(0x00620000, 0x0000003b, 0x62000000, 0, 0x00007800), 4);
        Edge.due("they stand side by side", x.fault(0), 3);
        x.end(0);
        Edge.due("feed of zeros alone", x.feed(0, 0, 0, 0, 0), 0);
        Edge.due("byte 255 four times", x.feed(-1, 0, 0, 0, 0), 4);
        Edge.due("byte 128 once", x.feed(Integer.MIN_VALUE, 0, 0, 0, 0), 5);
        Edge.due("byte 1 once", x.feed(0, 0, 0, 0, 1), 6);
        Edge.due("such a byte is no sign of a house", x.fault(0), 0);
    }

    private static void promise2_howMany() {
        Edge.of(2, "how many it has");
        CraneCloth x = new CraneCloth();
        Edge.due("one byte", x.feed(0x62, 0, 0, 0, 0), 1);
        Edge.due("feed of nothing", x.feed(0, 0, 0, 0, 0), 1);
        Edge.due("one byte more", x.feed(0, 0, 0x3b000000, 0, 0), 2);
        Edge.due("count(4)", x.count(4), 2);
    }

    private static CraneCloth blanks(int bytes) {
        CraneCloth x = new CraneCloth();
        for (int i = 0; i < 12; i++) {
            x.feed(BLANKS, BLANKS, BLANKS, BLANKS, BLANKS);
        }
        x.end(bytes);
        return x;
    }

    private static void promise2_moreThan240() {
        Edge.of(2, "more than 240");
        Edge.due("twenty to 220", blanks(220).feed(BLANKS, BLANKS, BLANKS, BLANKS, BLANKS), 240);
        CraneCloth x = blanks(221);
        Edge.due("twenty to 221", x.feed(BLANKS, BLANKS, BLANKS, BLANKS, 0x62626262), NONE);
        Edge.due("nothing of it came", x.count(4), 221);
        Edge.due("nothing but blanks, no b", x.fault(0), 221);
        Edge.due("nineteen to 221", x.feed(BLANKS, BLANKS, BLANKS, BLANKS, 0x00202062), 240);
        Edge.due("all 240 bytes are read", x.text(0), 1);
        CraneCloth full = blanks(240);
        Edge.due("one to 240", full.feed(0x62000000, 0, 0, 0, 0), NONE);
        Edge.due("one at the end of five numbers", full.feed(0, 0, 0, 0, 1), NONE);
        Edge.due("none to 240", full.feed(0, 0, 0, 0, 0), 240);
        Edge.due("the length is the fault", full.fault(0), 240);
        CraneCloth last = blanks(239);
        Edge.due("two to 239", last.feed(0x00620062, 0, 0, 0, 0), NONE);
        Edge.due("one to 239", last.feed(0x00000062, 0, 0, 0, 0), 240);
        Edge.due("the 240th byte is read", last.text(0), 1);
    }

    private static void promise3_firstBytesAlone() {
        Edge.of(3, "The TAPE has its first n bytes alone.");
        CraneCloth x = new CraneCloth();
        Edge.due("end(0) of an empty tape", x.end(0), true);
        Check.feed(x, "b;bx");
        Edge.due("end of all", x.end(4), true);
        Edge.due("all are left", x.count(4), 4);
        Edge.due("end(3)", x.end(3), true);
        Edge.due("three are left", x.count(4), 3);
        Edge.due("the first three", x.fault(0), NONE);
        Edge.due("what was cut off does not come again", x.end(4), false);
        Check.feed(x, "q1");
        Edge.due("more comes behind them", x.fault(0), NONE);
        Edge.due("end(0)", x.end(0), true);
        Edge.due("nothing is left", x.count(4), 0);
    }

    private static void promise3_refused() {
        Edge.of(3, "False: n.");
        CraneCloth x = new CraneCloth();
        Edge.due("end(1) of an empty tape", x.end(1), false);
        Edge.due("end(-1) of an empty tape", x.end(-1), false);
        Check.feed(x, "b;b");
        Edge.due("end(4) of 3", x.end(4), false);
        Edge.due("end(-1) of 3", x.end(-1), false);
        for (int far : Edge.FAR) {
            Edge.due("end(" + far + ")", x.end(far), false);
        }
        Edge.due("the tape is as it was", x.text(0), 2);
    }

    private static void promise4_noSuchSort() {
        Edge.of(4, "no such sort");
        CraneCloth x = new CraneCloth();
        Check.feed(x, "b");
        Edge.due("fault(-1)", x.fault(-1), -2);
        Edge.due("fault(3)", x.fault(3), -2);
        for (int far : Edge.FAR) {
            Edge.due("fault(" + far + ")", x.fault(far), -2);
        }
        Edge.due("fault(0) is a sort", x.fault(0), NONE);
        Edge.due("fault(1) is a sort", x.fault(1), 0);
        Edge.due("fault(2) is a sort", x.fault(2), 0);
    }

    private static void promise4_noneAndNothingChanges() {
        Edge.of(4, "NONE: none.");
        CraneCloth x = Check.house("sw9t5;dn3v4;bp7");
        Check.weeks(x, "1");
        String before = Edge.state(x);
        Check.feed(x, "sw1t2;d;d;b;b");
        Edge.due("fault(0) of another house", x.fault(0), NONE);
        Edge.due("the tape is not taken", x.end(0), true);
        Edge.same("the house is as it was", Edge.state(x), before);
        Edge.due("what a bolt takes is as it was", x.rule(3), 5);
        Edge.due("fault(1) of a law", Check.fault(x, 1, "y:1"), NONE);
        Edge.due("fault(2) of a plan", Check.fault(x, 2, "c"), NONE);
        Edge.due("no law by that", x.count(2), 0);
        Edge.due("no plan by that", x.count(3), 0);
        CraneCloth asked = new CraneCloth();
        Check.feed(asked, "s;d;d;d;b;b");
        Edge.due("fault(0) of a first house", asked.fault(0), NONE);
        Edge.due("fault(0) of it again", asked.fault(0), NONE);
        Edge.due("no house by that", asked.count(0), 0);
        Edge.due("its buyers", asked.text(0), 2);
        Edge.due("its debts", asked.count(1), 3);
        CraneCloth cutOff = new CraneCloth();
        Edge.due("fault(0) of six debts and an x", Check.fault(cutOff, 0, "s;d;d;d;d;d;d;b;b;b;b;b;x"), 24);
        Edge.due("text(0) of six debts behind it", Check.tell(cutOff, 0, "sw9;d;d;d;d;d;d;b;b;b;b;b"), 5);
        Edge.due("six debts", cutOff.count(1), 6);
        CraneCloth four = new CraneCloth();
        for (int i = 0; i < 4; i++) {
            Check.tell(four, 1, "y:1");
            Check.tell(four, 2, "c");
        }
        Edge.due("four laws are no fault of a law's text", Check.fault(four, 1, "y:1"), NONE);
        Edge.due("four plans are no fault of a plan's text", Check.fault(four, 2, "c"), NONE);
    }

    private static void promise5_answers() {
        Edge.of(5, "how many BUYERS");
        CraneCloth x = new CraneCloth();
        Edge.due("one", Check.tell(x, 0, "b"), 1);
        Edge.due("five", Check.tell(x, 0, "b;b;b;b;b"), 5);
        Edge.due("two of twelve clauses", Check.tell(x, 0, "d;d;b;d;s;d;d;b;d"), 2);
        Edge.due("one again", Check.tell(x, 0, "b"), 1);
        Edge.of(5, "a LAW, a PLAN: its number");
        Edge.due("the first law", Check.tell(x, 1, "y:1"), 0);
        Edge.due("the first plan", Check.tell(x, 2, "c"), 0);
        Edge.due("the second law", Check.tell(x, 1, "y:1"), 1);
        Edge.due("laws and plans without a house", Check.tell(new CraneCloth(), 2, "c"), 0);
    }

    private static void promise5_tapeIsEmptyThen() {
        Edge.of(5, "The TAPE (empty then)");
        String[] texts = {"b", "y:1", "c"};
        for (int sort = 0; sort < 3; sort++) {
            CraneCloth x = new CraneCloth();
            Check.tell(x, sort, texts[sort]);
            Edge.due("count(4) behind text(" + sort + ")", x.count(4), 0);
            Edge.due("text(" + sort + ") of the empty tape", x.text(sort), NONE);
            Edge.due("fault(" + sort + ") of the empty tape", x.fault(sort), 0);
        }
    }

    private static void promise5_whatIsGoneAndWhatIsNot() {
        Edge.of(5, "all that was of another one, TESTS and SIGNS, too, is gone but LAWS, which holds, PLANS, LAZY");
        CraneCloth x = Check.house("sl9;dn1v1;b;b");
        Check.tell(x, 1, "y:1");
        Check.tell(x, 1, "y:3");
        Check.tell(x, 2, "w3;c");
        x.law(1);
        x.lazy(9);
        Check.weeks(x, "1112");
        x.cut();
        x.sell(1, 1);
        x.sell(0, 0);
        x.pay(0);
        x.iron(true);
        x.test(0, true);
        x.sign(2, 60, true);
        x.image();
        Check.weeks(x, "3");
        Edge.due("text(0)", Check.tell(x, 0, "sw11k1;dn1v1;b;b;b"), 3);
        int[] want = {3, 1, 2, 1, 0, 1, 0, 0, 0, 0, 0, 0, 9, 0, 0, 0, 0, 0};
        for (int what = 0; what < want.length; what++) {
            Edge.due("count(" + what + ")", x.count(what), want[what]);
        }
        Edge.due("DOWN is told anew", x.rule(0), 11);
        Edge.due("DOUBT is told anew", x.rule(5), 1);
        Edge.due("the LAW holds", x.rule(3), 3);
        Edge.due("nothing was PAID", x.debt(0, 4), 0);
        Edge.due("nothing was SOLD to 0", x.buyer(0, 3), 0);
        Edge.due("nothing was SOLD to 1", x.buyer(1, 3), 0);
        Edge.due("no TEST", x.crane(), 500000);
        Edge.due("no LOG", x.log(0, 0), NONE);
        Edge.due("no BOOK", x.book(0, 0), NONE);
        Edge.due("no ACT", x.undo(), NONE);
        Edge.due("no IMAGE", x.back(), NONE);
        Edge.due("the PLAN", x.step(0, 0, 1), 3);
        Check.weeks(x, "1");
        Edge.due("no SIGN", x.from(-1), 1);
    }

    private static void promise5_fault() {
        Edge.of(5, "a FAULT");
        CraneCloth x = Check.house("sw9;b;b");
        Check.weeks(x, "12");
        x.image();
        x.test(0, true);
        String before = Edge.state(x);
        String[] wrong = {"sw1m1;d;b;b;b;", "y:1+", "w0;w1;w"};
        for (int sort = 0; sort < 3; sort++) {
            Check.feed(x, wrong[sort]);
            Edge.due("text(" + sort + ") of " + wrong[sort], x.text(sort), NONE);
            Edge.due("the tape is as it was", x.fault(sort), wrong[sort].length());
            x.end(0);
            Edge.due("text(" + sort + ") of nothing", x.text(sort), NONE);
        }
        Edge.same("nothing changes", Edge.state(x), before);
        Edge.due("the rules are as they were", x.rule(1), 40);
        Edge.due("the image is there still", x.back(), 2);
    }

    private static void promise5_noSuchSort() {
        Edge.of(5, "no such sort");
        CraneCloth x = new CraneCloth();
        Check.feed(x, "b");
        Edge.due("text(-1)", x.text(-1), NONE);
        Edge.due("text(3)", x.text(3), NONE);
        for (int far : Edge.FAR) {
            Edge.due("text(" + far + ")", x.text(far), NONE);
        }
        Edge.due("the tape is as it was", x.text(0), 1);
    }

    private static void promise5_fourLaws() {
        Edge.of(5, "there are four");
        CraneCloth x = Check.house("b");
        for (int i = 0; i < 4; i++) {
            Edge.due("law " + i, Check.tell(x, 1, "y:1" + i), i);
        }
        Edge.due("a fifth law", Check.tell(x, 1, "y:5"), NONE);
        Edge.due("its text stays on the tape", x.count(4), 3);
        Edge.due("four laws are there", x.count(2), 4);
        Edge.due("law(4)", x.law(4), false);
        for (int i = 0; i < 4; i++) {
            x.law(i);
            Edge.due("takes by law " + i, x.rule(3), 10 + i);
        }
        Edge.of(5, "LAWS (4 at most)");
        Check.tell(x, 0, "b;b");
        Edge.due("a fifth law in another house", Check.tell(x, 1, "y:5"), NONE);
        Edge.due("a plan behind four laws", Check.tell(x, 2, "c"), 0);
    }

    private static void promise5_fourPlans() {
        Edge.of(5, "PLANS (4 at most)");
        CraneCloth x = Check.house("b");
        for (int i = 0; i < 4; i++) {
            Edge.due("plan " + i, Check.tell(x, 2, "w" + i), i);
        }
        Edge.due("a fifth plan", Check.tell(x, 2, "c;c"), NONE);
        Edge.due("its text stays on the tape", x.count(4), 3);
        Edge.due("four plans are there", x.count(3), 4);
        Edge.due("the fourth is as it was", x.step(3, 0, 1), 3);
        Edge.due("step of a fifth", x.step(4, 0, 0), Edge.HIDDEN);
        Edge.due("a law behind four plans", Check.tell(x, 1, "y:1"), 0);
    }

    private static void promise9_laws() {
        Edge.of(9, "no such one");
        CraneCloth x = Check.house("b");
        Edge.due("law(0) without laws", x.law(0), false);
        Check.tell(x, 1, "y:4");
        Check.tell(x, 1, "y:5");
        Edge.due("law(1)", x.law(1), true);
        Edge.due("law(2)", x.law(2), false);
        Edge.due("law(-2)", x.law(-2), false);
        for (int far : Edge.FAR) {
            Edge.due("law(" + far + ")", x.law(far), false);
        }
        Edge.due("law 1 holds still", x.count(5), 1);
        Edge.due("takes by law 1 still", x.rule(3), 5);
        Edge.of(9, "The LAW that holds (NONE: none).");
        Edge.due("law(1) again", x.law(1), true);
        Edge.due("law(0)", x.law(0), true);
        Edge.due("takes by law 0", x.rule(3), 4);
        Edge.due("law(NONE)", x.law(NONE), true);
        Edge.due("none holds", x.count(5), NONE);
        Edge.due("takes as told", x.rule(3), 8);
        Edge.due("law(NONE) again", x.law(NONE), true);
        Edge.due("it is no act", x.count(17), 0);
        Edge.of(9, "(none at first: what is told)");
        CraneCloth first = Check.house("st20;b");
        Check.tell(first, 1, "y:4");
        Edge.due("a law that was told does not hold yet", first.rule(3), 20);
        Edge.due("count(5) at first", first.count(5), NONE);
    }

    private static void promise10_lazy() {
        Edge.of(10, "LAZY (0 .. 9).");
        CraneCloth x = new CraneCloth();
        Edge.due("lazy(0)", x.lazy(0), true);
        Edge.due("count(12)", x.count(12), 0);
        Edge.due("lazy(9)", x.lazy(9), true);
        Edge.due("count(12)", x.count(12), 9);
        Edge.due("lazy(2)", x.lazy(2), true);
        Edge.due("count(12)", x.count(12), 2);
        Edge.due("it is no act", x.count(17), 0);
    }

    private static void promise10_refused() {
        Edge.of(10, "out of bounds");
        CraneCloth x = new CraneCloth();
        x.lazy(7);
        Edge.due("lazy(-1)", x.lazy(-1), false);
        Edge.due("lazy(10)", x.lazy(10), false);
        for (int far : Edge.FAR) {
            Edge.due("lazy(" + far + ")", x.lazy(far), false);
        }
        Edge.due("count(12)", x.count(12), 7);
        Edge.of(10, "it is so");
        Edge.due("lazy(7) again", x.lazy(7), false);
        Edge.due("lazy(2) at first", new CraneCloth().lazy(2), false);
        Edge.due("lazy(2) behind another", x.lazy(2), true);
        Edge.of(10, "LAZY (0 .. 9; 2 at first)");
        Edge.due("count(12)", new CraneCloth().count(12), 2);
    }
}
