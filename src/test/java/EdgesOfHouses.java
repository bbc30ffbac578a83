/** Boundary cases of a house's text (promise 4) and of what it told (promises 6, 7, 8). */
final class EdgesOfHouses {
    private static final int NONE = Edge.NONE;

    private EdgesOfHouses() {
    }

    static void all() {
        promise4_clauses();
        promise4_anyOrder();
        promise4_itemsNoneOrMore();
        promise4_eachOnce();
        promise4_oneOrTwoDigits();
        promise6_items();
        promise7_items();
        promise8_items();
        promise4_blanks();
        promise4_noOtherBlanks();
        promise4_notWithinNumbers();
        promise4_firstByte();
        promise4_endsTooEarly();
        promise4_withoutBuyer();
        promise4_moreDownThanMost();
        promise4_numberOutOfBounds();
        promise4_thirdDigit();
        promise4_letterThatWasThere();
        promise4_secondS();
        promise4_seventhD();
        promise4_sixthB();
        promise6_refused();
        promise7_refused();
        promise7_late();
        promise8_refused();
        promise8_wants();
    }

    private static void fault(String text, int want) {
        Edge.due("fault(0) of '" + text + "'", Check.fault(new CraneCloth(), 0, text), want);
    }

    private static void promise4_clauses() {
        Edge.of(4, "s (its RULES; one at most)");
        fault("b", NONE);
        fault("s;b", NONE);
        fault("s;s;b", 2);
        Edge.of(4, "d (a DEBT; none to 6)");
        fault("s;b", NONE);
        fault("d;b", NONE);
        fault("d;d;d;d;d;d;b", NONE);
        fault("d;d;d;d;d;d;d;b", 12);
        Edge.due("none", Check.house("b").count(1), 0);
        Edge.due("six", Check.house("d;d;d;d;d;d;b").count(1), 6);
        Edge.of(4, "b (a BUYER; 1 .. 5)");
        fault("s;d", 3);
        fault("b;b;b;b;b", NONE);
        fault("b;b;b;b;b;b", 10);
        Edge.due("one", Check.house("b").count(0), 1);
        Edge.due("five", Check.house("b;b;b;b;b").count(0), 5);
    }

    private static void promise4_anyOrder() {
        Edge.of(4, "in any order");
        String[] orders = {"s;d;b", "s;b;d", "d;s;b", "d;b;s", "b;s;d", "b;d;s", "d;b;d;s;b;d"};
        for (String order : orders) {
            fault(order, NONE);
        }
        CraneCloth x = Check.house("bp1;dv11;bp2;sw7;dv12;bp3");
        for (int i = 0; i < 3; i++) {
            Edge.due("buyers are numbered as they stand", x.buyer(i, 0), i + 1);
        }
        for (int i = 0; i < 2; i++) {
            Edge.due("debts are numbered as they stand", x.debt(i, 1), i + 11);
        }
        Edge.due("the rules stand between", x.rule(0), 7);
        Edge.due("items in any order", Check.house("bn4q5p6").buyer(0, 2), 4);
    }

    private static void promise4_itemsNoneOrMore() {
        Edge.of(4, "then ITEMS, none or more");
        fault("s;d;b", NONE);
        fault("sl20k9p9t20g9m60w60;di9v99n60;bn9q30p60", NONE);
        fault("1b", 0);
        fault("p1;b", 0);
        fault(";b", 0);
        fault("b;;b", 2);
    }

    private static void promise4_eachOnce() {
        Edge.of(4, "a letter, each once at most in a CLAUSE");
        fault("sw1w1;b", 3);
        fault("dn1v1n1;b", 5);
        fault("bp1p1", 3);
        fault("bp1q1n1p1", 7);
        fault("bp1;bp1", NONE);
        fault("dn1;dn1;b", NONE);
        fault("sp1;bp1", NONE);
        fault("dn1;bn1", NONE);
        fault("sw1m2g3t4p5k6l7x", 15);
        fault("sw1m2g3t4p5k6l7w8", 15);
    }

    private static void promise4_oneOrTwoDigits() {
        Edge.of(4, "a number (one or two digits)");
        fault("bp", 2);
        fault("bp;b", 2);
        fault("bpq1", 2);
        fault("bp5", NONE);
        fault("bp05", NONE);
        fault("bp55", NONE);
        fault("bp055", 4);
        fault("bp-1", 2);
        fault("bp/", 2);
        fault("bp:", 2);
        Edge.due("two digits of one", Check.house("bp05").buyer(0, 0), 5);
        Edge.due("two digits", Check.house("bp50").buyer(0, 0), 50);
    }

    /** An item at its bounds and beyond them: the clause's letter is byte 0, the item's letter byte 1. */
    private static void item(String words, String clause, char letter, int low, int high, String beside) {
        Edge.of(4, words);
        String head = clause + letter;
        String tail = beside + ";b";
        fault(head + low + tail, NONE);
        fault(head + high + tail, NONE);
        fault(head + "0" + Math.max(low, 1) + tail, NONE);
        fault(head + "00" + tail, low == 0 ? NONE : 3);
        fault(head + "0" + tail, low == 0 ? NONE : 2);
        fault(head + (high + 1) + tail, high == 99 ? 4 : 3);
        fault(head + "99" + tail, high == 99 ? NONE : 3);
        fault(head + "000" + tail, 4);
        fault(head + "999" + tail, 4);
        fault(head + "0" + high + tail, high > 9 ? 4 : NONE);
        fault(head + "00" + high + tail, 4);
    }

    private static void rule(String words, char letter, int low, int high, int usual, int what, String beside) {
        item(words, "s", letter, low, high, beside);
        Edge.of(6, words);
        Edge.due("the least", Check.house("s" + letter + low + beside + ";b").rule(what), low);
        Edge.due("the most", Check.house("s" + letter + high + beside + ";b").rule(what), high);
        Edge.due("without the clause", Check.house("b").rule(what), usual);
        Edge.due("without the item", Check.house("b;s").rule(what), usual);
    }

    private static void promise6_items() {
        rule("w DOWN (0 .. 60; 30 without)", 'w', 0, 60, 30, 0, "m60");
        rule("m the most DOWN (1 .. 60; 40)", 'm', 1, 60, 40, 1, "w0");
        rule("g by how much it GROWS (0 .. 9; 3)", 'g', 0, 9, 3, 2, "");
        rule("t what a BOLT TAKES (1 .. 20; 8)", 't', 1, 20, 8, 3, "");
        rule("p what the FIELD pays (0 .. 9; 3)", 'p', 0, 9, 3, 4, "");
        rule("k DOUBT (0 .. 9; 2)", 'k', 0, 9, 2, 5, "");
        rule("l the DOUBT with which he LOOKS (1 .. 20; 10)", 'l', 1, 20, 10, 6, "");
    }

    private static void debt(String words, char letter, int low, int high, int usual, int what) {
        item(words, "d", letter, low, high, "");
        Edge.of(7, words);
        Edge.due("the least", Check.house("d" + letter + low + ";b").debt(0, what), low);
        Edge.due("the most", Check.house("d" + letter + high + ";b").debt(0, what), high);
        Edge.due("without", Check.house("d;b").debt(0, what), usual);
        Edge.due("without, behind one with it", Check.house("d" + letter + high + ";d;b").debt(1, what), usual);
    }

    private static void promise7_items() {
        debt("n the WEEK in which it is DUE (1 .. 60; 10)", 'n', 1, 60, 10, 0);
        debt("v SUM (1 .. 99; 20)", 'v', 1, 99, 20, 1);
        debt("i by how much it is more for each WEEK late (0 .. 9; 1)", 'i', 0, 9, 1, 2);
    }

    private static void buyer(String words, char letter, int low, int high, int usual, int what) {
        item(words, "b", letter, low, high, "");
        Edge.of(8, words);
        Edge.due("the least", Check.house("b" + letter + low).buyer(0, what), low);
        Edge.due("the most", Check.house("b" + letter + high).buyer(0, what), high);
        Edge.due("without", Check.house("b").buyer(0, what), usual);
        Edge.due("without, behind one with it", Check.house("b" + letter + high + ";b").buyer(1, what), usual);
    }

    private static void promise8_items() {
        buyer("p what a BOLT is paid (0 .. 60; 20)", 'p', 0, 60, 20, 0);
        buyer("q what a THIRD is paid (0 .. 30; 8)", 'q', 0, 30, 8, 1);
        buyer("n how many of both together it WANTS (1 .. 9; 3)", 'n', 1, 9, 3, 2);
    }

    private static void promise4_blanks() {
        Edge.of(4, "Blanks (32) may stand between all signs of these");
        fault("  s  w  12  m  13  ;  d  n  2  v  3  ;  b  p  4  q  5  ", NONE);
        fault(" b", NONE);
        fault("b ", NONE);
        fault(" ".repeat(239) + "b", NONE);
        fault("b" + " ".repeat(239), NONE);
        CraneCloth x = Check.house(" s w 12 m 13 ; b p 4 q 5 ");
        Edge.due("DOWN", x.rule(0), 12);
        Edge.due("for a BOLT", x.buyer(0, 0), 4);
        Edge.due("for a THIRD", x.buyer(0, 1), 5);
    }

    private static void promise4_noOtherBlanks() {
        Edge.of(4, "Blanks (32)");
        for (int sign : new int[] {1, 9, 10, 13, 31, 33, 127, 128, 160, 255}) {
            String other = String.valueOf((char) sign);
            fault("b" + other, 1);
            fault(other + "b", 0);
            fault("bp" + other + "1", 2);
        }
    }

    private static void promise4_notWithinNumbers() {
        Edge.of(4, "not within numbers");
        fault("bp1 2", 4);
        fault("bp 12", NONE);
        fault("bp1  2q3", 5);
        fault("bp1 2 3", 4);
        fault("sl1 0;b", 4);
        fault("sl0 1;b", 2);
    }

    private static void promise4_firstByte() {
        Edge.of(4, "FAULT: the first byte at which no such TEXT can go on");
        fault("x", 0);
        fault("bx;y", 1);
        fault("b:;b", 1);
        fault("B", 0);
        fault("bP1", 1);
        fault("bp99;x", 3);
        fault("s;s;bp99", 2);
        fault("sw41;bn0", 7);
        // each letter of a clause is wrong in the others
        for (char letter : "wmgtkl".toCharArray()) {
            fault("d" + letter + "1;b", 1);
            fault("b" + letter + "1", 1);
        }
        for (char letter : "nvi".toCharArray()) {
            fault("s" + letter + "1;b", 1);
        }
        for (char letter : "vi".toCharArray()) {
            fault("b" + letter + "1", 1);
        }
        for (char letter : "pq".toCharArray()) {
            fault("d" + letter + "1;b", 1);
        }
        fault("sq1;b", 1);
    }

    private static void promise4_endsTooEarly() {
        Edge.of(4, "(the length, if it ends too early");
        fault("", 0);
        fault(" ", 1);
        fault(" ".repeat(240), 240);
        fault("b;", 2);
        fault("b; ", 3);
        fault("bp", 2);
        fault("bp  ", 4);
        fault("b;s;", 4);
        fault("b;sw", 4);
    }

    private static void promise4_withoutBuyer() {
        Edge.of(4, "without a BUYER");
        fault("s", 1);
        fault("d", 1);
        fault("s;d;d", 5);
        fault("sw1  ", 5);
        fault("d;d;d;d;d;d;s", 13);
        fault("d;d;d;d;d;d;s;", 14);
    }

    private static void promise4_moreDownThanMost() {
        Edge.of(4, "or with more DOWN than the most)");
        fault("sw40;b", NONE);
        fault("sw41;b", 6);
        fault("sm30;b", NONE);
        fault("sm29;b", 6);
        fault("sw7m7;b", NONE);
        fault("sw8m7;b", 7);
        fault("sm7w8;b", 7);
        fault("b;sw8m7", 7);
        fault("b;sw8m7  ", 9);
        fault("sw1m1;b", NONE);
        fault("sw60m59;b", 9);
    }

    private static void promise4_numberOutOfBounds() {
        Edge.of(4, "a number out of bounds is wrong at its last digit");
        fault("bp61", 3);
        fault("bn0", 2);
        fault("bn00", 3);
        fault("bn10", 3);
        fault("bn 10", 4);
        fault("bn10 ", 3);
        fault("bn10;b", 3);
        fault("bn0x", 2);
        fault("sw1l21p1;b", 5);
    }

    private static void promise4_thirdDigit() {
        Edge.of(4, "a third digit (whatever stands ahead of it");
        fault("bp600", 4);
        fault("bp610", 4);
        fault("bp000", 4);
        fault("bp001", 4);
        fault("bn000", 4);
        fault("bn001", 4);
        fault("bn100", 4);
        fault("bn999", 4);
        fault("bn 9999", 5);
        fault("sw010;b", 4);
    }

    private static void promise4_letterThatWasThere() {
        Edge.of(4, "a letter that was there");
        fault("bp1p", 3);
        fault("bp1 p2", 4);
        fault("bp1q2p", 5);
        fault("sw1m2w", 5);
        fault("di1i1;b", 3);
        fault("b;b;bn1n1", 7);
    }

    private static void promise4_secondS() {
        Edge.of(4, "a second s");
        fault("s;s", 2);
        fault("s; s", 3);
        fault("b;s;b;s", 6);
        fault("sw1;b;sm1", 6);
        fault("s;d;d;d;d;d;d;b;b;b;b;b;s", 24);
        fault("s;d;d;d;d;d;d;b;b;b;b;b; s", 25);
    }

    private static void promise4_seventhD() {
        Edge.of(4, "a seventh d");
        fault("d;d;d;d;d;d;d", 12);
        fault("d;d;d;d;d;d; d", 13);
        fault("b;d;d;d;d;d;d;d", 14);
        fault("s;b;d;d;d;d;d;d;b;b;b;b;dn1", 24);
        fault("s;b;d;d;d;d;d;d;b;b;b;b;  dn1", 26);
    }

    private static void promise4_sixthB() {
        Edge.of(4, "a sixth b");
        fault("b;b;b;b;b;b", 10);
        fault("b;b;b;b;b; b", 11);
        fault("s;b;b;b;b;b;b", 12);
        fault("s;d;d;d;d;d;d;b;b;b;b;b;b", 24);
        fault("s;d;d;d;d;d;d;b;b;b;b;b;   b", 27);
        fault("s;d;d;d;d;d;d;b;b;b;b;b;", 24);
    }

    private static void promise6_refused() {
        Edge.of(6, "no HOUSE");
        for (int what = -1; what <= 7; what++) {
            Edge.due("rule(" + what + ")", new CraneCloth().rule(what), NONE);
        }
        Edge.of(6, "no such what");
        CraneCloth x = Check.house("b");
        Edge.due("rule(-1)", x.rule(-1), NONE);
        Edge.due("rule(7)", x.rule(7), NONE);
        for (int far : Edge.FAR) {
            Edge.due("rule(" + far + ")", x.rule(far), NONE);
        }
        Edge.of(6, "0 DOWN now, 1 the most, 2 how much it GROWS, 3 what a BOLT TAKES now, 4 what the FIELD pays, 5 DOUBT now");
        CraneCloth y = Check.house("sw10m11g2t3p4k5l7;b");
        int[] first = {10, 11, 2, 3, 4, 5, 7};
        Check.weeks(y, "1");
        int[] then = {9, 11, 2, 3, 4, 6, 7};
        Check.weeks(y, "0");
        y.undo();
        for (int what = 0; what <= 6; what++) {
            Edge.due("rule(" + what + ") behind a week", y.rule(what), then[what]);
        }
        y.undo();
        for (int what = 0; what <= 6; what++) {
            Edge.due("rule(" + what + ") at first", y.rule(what), first[what]);
        }
    }

    private static void promise7_refused() {
        Edge.of(7, "no such ones");
        Edge.due("without a house", new CraneCloth().debt(0, 0), NONE);
        Edge.due("without debts", Check.house("b").debt(0, 0), NONE);
        CraneCloth x = Check.house("d;d;b");
        for (int what = -1; what <= 5; what++) {
            Edge.due("debt(2, " + what + ")", x.debt(2, what), NONE);
            Edge.due("debt(-1, " + what + ")", x.debt(-1, what), NONE);
        }
        Edge.due("debt(1, -1)", x.debt(1, -1), NONE);
        Edge.due("debt(1, 5)", x.debt(1, 5), NONE);
        Edge.due("debt(1, 4) is one", x.debt(1, 4), 0);
        for (int far : Edge.FAR) {
            Edge.due("debt(" + far + ", 0)", x.debt(far, 0), NONE);
            Edge.due("debt(0, " + far + ")", x.debt(0, far), NONE);
        }
        CraneCloth six = Check.house("d;d;d;d;d;dn7;b");
        Edge.due("the sixth", six.debt(5, 0), 7);
        Edge.due("a seventh", six.debt(6, 0), NONE);
        Check.tell(six, 0, "d;b");
        Edge.due("of the house ahead", six.debt(1, 0), NONE);
    }

    private static void promise7_late() {
        Edge.of(7, "its SUM, and its more for each WEEK that is later than the one in which it is DUE");
        CraneCloth x = Check.house("dn1v10i9;dn2v10i0;dn3v10i1;b");
        int[][] want = {{10, 10, 10}, {10, 10, 10}, {19, 10, 10}, {28, 10, 10}, {37, 10, 11}};
        for (int week = 0; week < 5; week++) {
            for (int debt = 0; debt < 3; debt++) {
                Edge.due("debt(" + debt + ", 3) in week " + week, x.debt(debt, 3), want[week][debt]);
            }
            x.week(0);
        }
        x.undo();
        Edge.due("a week undone", x.debt(0, 3), 37);
        Edge.of(7, "4 whether PAID (1, 0)");
        Edge.due("not yet", x.debt(1, 4), 0);
        x.give(10);
        x.pay(1);
        Edge.due("paid", x.debt(1, 4), 1);
        Edge.due("the others not", x.debt(0, 4) + x.debt(2, 4), 0);
        Edge.of(7, "its more for each WEEK that is later");
        CraneCloth most = Check.house("dn1v99i9;b");
        Check.tell(most, 2, "w0;w0;w0;w0;w0;w0;w0;w0;w0;w0;w0;w0;w0;w0;w0;w0");
        for (int i = 0; i < 63; i++) {
            most.perform(0);
        }
        Edge.due("week 999", most.count(6), 999);
        Edge.due("the most that a debt can be", most.debt(0, 3), 99 + 998 * 9);
    }

    private static void promise8_refused() {
        Edge.of(8, "no such ones");
        Check.buyerThrows(8, new CraneCloth(), 0, 0);
        CraneCloth x = Check.house("b;b");
        for (int what = -1; what <= 4; what++) {
            Check.buyerThrows(8, x, 2, what);
            Check.buyerThrows(8, x, -1, what);
        }
        Check.buyerThrows(8, x, 1, 4);
        Check.buyerThrows(8, x, 1, -1);
        Edge.due("buyer(1, 3) is one", x.buyer(1, 3), 0);
        for (int far : Edge.FAR) {
            Check.buyerThrows(8, x, far, 0);
            Check.buyerThrows(8, x, 0, far);
        }
        CraneCloth five = Check.house("b;b;b;b;bp7");
        Edge.due("the fifth", five.buyer(4, 0), 7);
        Check.buyerThrows(8, five, 5, 0);
        Check.tell(five, 0, "b");
        Check.buyerThrows(8, five, 1, 0);
        Edge.due("the state behind a throw", five.count(0), 1);
    }

    private static void promise8_wants() {
        Edge.of(8, "2 how many it WANTS still, 3 how many it bought");
        CraneCloth x = Check.house("sl20w60m60t1;bn3;bn1");
        Check.weeks(x, "111");
        x.cut();
        int[][] want = {{3, 0}, {2, 1}, {1, 2}, {0, 3}};
        for (int sold = 0; sold <= 3; sold++) {
            Edge.due("wants still behind " + sold, x.buyer(0, 2), want[sold][0]);
            Edge.due("bought behind " + sold, x.buyer(0, 3), want[sold][1]);
            x.sell(0, sold % 2);
        }
        Edge.due("refused: none is wanted", x.buyer(0, 2), 0);
        Edge.due("the other one", x.buyer(1, 2), 1);
    }
}
