/** Boundary cases of a plan's text (promise 4), of its steps and of doing them (promises 21, 22, 23). */
final class EdgesOfPlans {
    private static final int NONE = Edge.NONE;
    private static final int HIDDEN = Edge.HIDDEN;
    private static final String SIXTEEN = "c;c;c;c;c;c;c;c;c;c;c;c;c;c;c;c";

    private EdgesOfPlans() {
    }

    static void all() {
        promise4_oneToSixteen();
        promise4_stepOfWeek();
        promise4_otherSteps();
        promise4_blanks();
        promise4_endsTooEarly();
        promise4_notThereIsNoFault();
        promise21_refused();
        promise21_digits();
        promise22_refused();
        promise22_firstThatCantBe();
        promise22_behind999();
        promise22_money();
        promise22_apart();
        promise23_refused();
        promise23_upToThere();
        promise23_actsOfSteps();
        promise23_behind999();
    }

    private static void fault(String text, int want) {
        Edge.due("fault(2) of '" + text + "'", Check.fault(new CraneCloth(), 2, text), want);
    }

    private static void promise4_oneToSixteen() {
        Edge.of(4, "STEPS with ; between, 1 to 16");
        fault("", 0);
        fault(" ", 1);
        fault(";", 0);
        fault("c", NONE);
        fault("c;", 2);
        fault("c;;c", 2);
        fault("cc", 1);
        fault("c,c", 1);
        fault(SIXTEEN, NONE);
        fault(SIXTEEN + " ", NONE);
        fault("s01;" + "w0;".repeat(14) + "p0", NONE);
        Edge.of(4, "the ; ahead of a 17th STEP");
        fault(SIXTEEN + ";c", 31);
        fault(SIXTEEN + ";", 31);
        fault(SIXTEEN + " ;c", 32);
        fault(SIXTEEN + ";x", 31);
        fault(SIXTEEN + "x", 31);
        fault("w0;".repeat(16) + "w0", 47);
    }

    private static void promise4_stepOfWeek() {
        Edge.of(4, "w and a digit 0 .. 3 (a WEEK with that DEED)");
        for (int digit = 0; digit <= 9; digit++) {
            fault("w" + digit, digit <= 3 ? NONE : 1);
        }
        fault("w", 1);
        fault("w;", 1);
        fault("w00", 2);
        fault("w-1", 1);
        fault("w/", 1);
        fault("w:", 1);
        Edge.of(4, "the digit of a STEP w above 3");
        fault("c;w4", 3);
        fault("w 9", 2);
        fault("w4;c", 1);
    }

    private static void promise4_otherSteps() {
        Edge.of(4, "c (a BOLT is CUT)");
        fault("c0", 1);
        Edge.of(4, "s and two digits (the BUYER, and 0 a BOLT, 1 a THIRD: it is SOLD)");
        for (int digit = 0; digit <= 9; digit++) {
            fault("s" + digit + "0", NONE);
            fault("s" + digit + "1", NONE);
            fault("s0" + digit, digit <= 1 ? NONE : 2);
        }
        fault("s", 1);
        fault("s0", 2);
        fault("s0;", 2);
        fault("s000", 3);
        Edge.of(4, "the second one of a STEP s above 1");
        fault("s02", 2);
        fault("s92;c", 2);
        fault("s 0 9", 4);
        Edge.of(4, "p and a digit (a DEBT is PAID)");
        for (int digit = 0; digit <= 9; digit++) {
            fault("p" + digit, NONE);
        }
        fault("p", 1);
        fault("px", 1);
        fault("p00", 2);
        Edge.of(4, "STEPS with ; between");
        for (int sign = 33; sign < 256; sign++) {
            String letter = String.valueOf((char) sign);
            if (!"wcsp".contains(letter)) {
                fault(letter + "0", 0);
            }
        }
    }

    private static void promise4_blanks() {
        Edge.of(4, "(between digits of a STEP they may)");
        fault("s 0 1", NONE);
        fault("s0 1", NONE);
        fault("s  0   1  ", NONE);
        fault("s0 2", 3);
        Edge.of(4, "may stand between all signs of these");
        fault("  w  0  ;  c  ;  s  1  0  ;  p  2  ", NONE);
        fault("w\t0", 1);
        CraneCloth x = new CraneCloth();
        Check.tell(x, 2, " w 3 ; s 9 1 ; p 8 ");
        Edge.due("the digit of w", x.step(0, 0, 1), 3);
        Edge.due("the first digit of s", x.step(0, 1, 1), 9);
        Edge.due("the second digit of s", x.step(0, 1, 2), 1);
        Edge.due("the digit of p", x.step(0, 2, 1), 8);
    }

    private static void promise4_endsTooEarly() {
        Edge.of(4, "(the length, if it ends too early");
        String plan = "w0;c;s10;p2";
        for (int length = 0; length < plan.length(); length++) {
            boolean whole = length == 2 || length == 4 || length == 8;
            fault(plan.substring(0, length), whole ? NONE : length);
            fault(plan.substring(0, length) + " ", whole ? NONE : length + 1);
        }
        fault(plan, NONE);
    }

    private static void promise4_notThereIsNoFault() {
        Edge.of(4, "(A BUYER, a DEBT of a STEP that is not there is no FAULT: the STEP can't be.)");
        fault("s90", NONE);
        fault("p9", NONE);
        CraneCloth x = Check.house("d;b");
        Check.tell(x, 2, "s10");
        Check.tell(x, 2, "w1;p1");
        Check.tell(x, 2, "w1;s91;w1");
        Check.riches(x, 999);
        Edge.due("run: no such buyer", x.run(0, 0), 0);
        Edge.due("run: no such debt", x.run(1, 0), 1);
        Edge.due("run: no such buyer of a third", x.run(2, 0), 1);
        Edge.due("perform: no such buyer", x.perform(0), 0);
        Edge.due("perform: no such debt", x.perform(1), 1);
        Edge.due("money is as it was", x.count(7), 999);
    }

    private static void promise21_refused() {
        Edge.of(21, "no such ones");
        CraneCloth x = new CraneCloth();
        Edge.due("without a plan", x.step(0, 0, 0), HIDDEN);
        Check.tell(x, 2, "w0;c");
        Edge.due("step(0, 1, 0) without a house", x.step(0, 1, 0), 1);
        int[][] refused = {{-1, 0, 0}, {1, 0, 0}, {0, -1, 0}, {0, 2, 0}, {0, 0, -1}, {0, 0, 3}};
        for (int[] r : refused) {
            Edge.due("step(" + r[0] + ", " + r[1] + ", " + r[2] + ")", x.step(r[0], r[1], r[2]), HIDDEN);
        }
        for (int far : Edge.FAR) {
            Edge.due("step(" + far + ", 0, 0)", x.step(far, 0, 0), HIDDEN);
            Edge.due("step(0, " + far + ", 0)", x.step(0, far, 0), HIDDEN);
            Edge.due("step(0, 0, " + far + ")", x.step(0, 0, far), HIDDEN);
        }
        Check.tell(x, 2, "w0;w1;w2;w3;w0;w1;w2;w3;w0;w1;w2;w3;w0;w1;w2;w3");
        Edge.due("the sixteenth", x.step(1, 15, 1), 3);
        Edge.due("a seventeenth", x.step(1, 16, 0), HIDDEN);
        Check.tell(x, 2, "c;c;c;x");
        Edge.due("of a plan with a fault", x.step(2, 0, 0), HIDDEN);
    }

    private static void promise21_digits() {
        Edge.of(21, "0 what (0 w, 1 c, 2 s, 3 p), 1 the first digit (NONE), 2 the second one (NONE)");
        CraneCloth x = new CraneCloth();
        Check.tell(x, 2, "w0;c;s00;p0;w3;s91;p9");
        int[][] want = {{0, 0, NONE}, {1, NONE, NONE}, {2, 0, 0}, {3, 0, NONE}, {0, 3, NONE}, {2, 9, 1}, {3, 9, NONE}};
        for (int i = 0; i < want.length; i++) {
            for (int what = 0; what <= 2; what++) {
                Edge.due("step(0, " + i + ", " + what + ")", x.step(0, i, what), want[i][what]);
            }
        }
    }

    private static void promise22_refused() {
        Edge.of(22, "no HOUSE");
        CraneCloth x = new CraneCloth();
        Check.tell(x, 2, "w0");
        Edge.due("run(0, 0)", x.run(0, 0), HIDDEN);
        Edge.due("run(0, 1)", x.run(0, 1), HIDDEN);
        Edge.of(22, "no such ones");
        Check.tell(x, 0, "b");
        Edge.due("run(0, 0) is one", x.run(0, 0), NONE);
        int[][] refused = {{-1, 0}, {1, 0}, {0, -1}, {0, 2}};
        for (int[] r : refused) {
            Edge.due("run(" + r[0] + ", " + r[1] + ")", x.run(r[0], r[1]), HIDDEN);
        }
        for (int far : Edge.FAR) {
            Edge.due("run(" + far + ", 0)", x.run(far, 0), HIDDEN);
            Edge.due("run(0, " + far + ")", x.run(0, far), HIDDEN);
        }
    }

    private static void promise22_firstThatCantBe() {
        Edge.of(22, "behind how many STEPS the first is that can't be");
        CraneCloth x = Check.house("dn1v5i1;bp5q2n2");
        Check.tell(x, 2, "c;w0");
        Edge.due("the first of all", x.run(0, 0), 0);
        Check.tell(x, 2, "w1;w1;w0;s00;c;s01;s01;p0;w3;w2;w3;w0");
        // 5 and 2 of the debt's 7 are there: it wants no more of the second third
        Edge.due("the first of several", x.run(1, 0), 6);
        Edge.due("money then", x.run(1, 1), 7);
        Check.tell(x, 2, "w0;w0;w0;w0;w0;w0;w0;w0;w0;w0;w0;w0;w0;w0;w0;c");
        Edge.due("the last of sixteen", x.run(2, 0), 15);
        Edge.of(22, "(0; NONE: all can be)");
        Check.tell(x, 2, "w0;w1;s00;w2;w2;w2;w3;w0");
        Edge.due("all", x.run(3, 0), NONE);
        Edge.due("money of all", x.run(3, 1), 14);
    }

    private static void promise22_behind999() {
        Edge.of(22, "(a WEEK behind 999, too)");
        CraneCloth x = Edge.inWeek(997, "b");
        Check.tell(x, 2, "w2;w2;w2;w2");
        Edge.due("from week 997", x.run(1, 0), 2);
        Edge.due("money of two weeks", x.run(1, 1), 6);
        x.week(0);
        Edge.due("from week 998", x.run(1, 0), 1);
        x.week(1);
        Edge.due("it is 999", x.count(6), 999);
        Edge.due("from week 999", x.run(1, 0), 0);
        Edge.due("no money of it", x.run(1, 1), 0);
        Check.tell(x, 2, "s00;w0");
        Edge.due("other steps can be", x.run(2, 0), 1);
        Edge.due("money of them", x.run(2, 1), 20);
    }

    private static void promise22_money() {
        Edge.of(22, "MONEY then");
        CraneCloth x = Check.house("dv20;bp60n9;bp59n9");
        Check.tell(x, 2, "w2;w1;s00");
        Check.tell(x, 2, "w1;s10;w2");
        Check.tell(x, 2, "p0");
        Check.riches(x, 9940);
        Edge.due("a sale beyond 9,999 can't be", x.run(0, 0), 2);
        Edge.due("money ahead of it", x.run(0, 1), 9943);
        Edge.due("a sale up to 9,999 can be", x.run(1, 0), NONE);
        Edge.due("of the field more is lost", x.run(1, 1), 9999);
        Edge.due("a debt is paid", x.run(2, 1), 9920);
    }

    private static void promise22_apart() {
        Edge.of(22, "(Apart, from as it is");
        CraneCloth x = Check.house("dn1v1;bp9n2;b");
        Check.tell(x, 2, "w1;w2;c;s01;s10;p0;w3");
        Check.weeks(x, "11");
        x.give(2);
        x.image();
        String before = Edge.state(x);
        Edge.due("from two bolts and 2", x.run(0, 0), NONE);
        // the field, a third, a bolt, and the debt of week 4
        Edge.due("money then", x.run(0, 1), 2 + 3 + 8 + 20 - 4);
        Edge.same("nothing changes", Edge.state(x), before);
    }

    private static void promise23_refused() {
        Edge.of(23, "no HOUSE");
        CraneCloth x = new CraneCloth();
        Check.tell(x, 2, "w0");
        Edge.due("perform(0)", x.perform(0), NONE);
        Edge.of(23, "no such PLAN");
        Edge.due("without plans", Check.house("b").perform(0), NONE);
        Check.tell(x, 0, "b");
        Edge.due("perform(1)", x.perform(1), NONE);
        Edge.due("perform(-1)", x.perform(-1), NONE);
        for (int far : Edge.FAR) {
            Edge.due("perform(" + far + ")", x.perform(far), NONE);
        }
        Edge.due("no week went by", x.count(6), 0);
        Edge.due("perform(0) is one", x.perform(0), 1);
    }

    private static void promise23_upToThere() {
        Edge.of(23, "how many STEPS were done");
        CraneCloth x = Check.house("dn1v5i1;bp5q2n2");
        Check.tell(x, 2, "c;w0");
        Edge.due("none", x.perform(0), 0);
        Edge.due("no act by that", x.count(17), 0);
        Check.tell(x, 2, "w1;w1;w0;s00;c;s01;s01;p0");
        Edge.due("six of eight", x.perform(1), 6);
        Edge.due("money", x.count(7), 7);
        Edge.due("thirds", x.count(9), 2);
        Edge.due("the debt is not paid", x.debt(0, 4), 0);
        Edge.due("week", x.count(6), 3);
        Check.tell(x, 2, "w0;w0;w0;w0;w0;w0;w0;w0;w0;w0;w0;w0;w0;w0;w0;w3");
        Edge.due("sixteen of sixteen", x.perform(2), 16);
        Edge.due("gone by the last", x.count(10), 1);
        Edge.due("fifteen again", x.perform(2), 15);
    }

    private static void promise23_actsOfSteps() {
        Edge.of(23, "DO: its STEPS as ACTS, up to there.");
        CraneCloth x = Check.house("bn1");
        Check.tell(x, 2, "w1;s00;w2;c;w2");
        Edge.due("three of five", x.perform(0), 3);
        Edge.due("three acts", x.count(17), 3);
        Edge.due("two in the log", x.count(16), 2);
        Edge.due("one in the book", x.count(15), 1);
        Edge.due("the field is undone", x.undo(), 2);
        Edge.due("money of the sale", x.count(7), 20);
        Edge.due("the sale is undone", x.undo(), 1);
        Edge.due("no money", x.count(7), 0);
        Edge.due("the bolt is there", x.count(8), 1);
        Edge.due("the bolt is undone", x.undo(), 0);
        Edge.due("no bolt", x.count(8), 0);
        Check.tell(x, 2, "w0;w0;w0;w0;w0;w0;w0;w0;w0;w0;w0;w0;w0;w0;w0;w0");
        for (int i = 0; i < 3; i++) {
            x.perform(1);
        }
        Edge.due("forty acts of forty-eight", x.count(17), 40);
    }

    private static void promise23_behind999() {
        Edge.of(23, "its STEPS as ACTS");
        CraneCloth x = Edge.inWeek(998, "b");
        Check.tell(x, 2, "w1;w0;w0");
        Edge.due("one week of three", x.perform(1), 1);
        Edge.due("it is 999", x.count(6), 999);
        Edge.due("none of three", x.perform(1), 0);
        Check.tell(x, 2, "s00;w0");
        Edge.due("a sale in 999", x.perform(2), 1);
        Edge.due("its money", x.count(7), 20);
    }
}
