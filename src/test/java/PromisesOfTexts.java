/** Promises 1 to 10, 21 and the faults of texts, by answers worked out by hand. */
public final class PromisesOfTexts {
    private static final String HOUSE = "sw20m30g4t8p3k2l6;dn2v10i2;dn5v30i1;bp20q9n2;bp15q4n9";

    public static void main(String[] args) {
        newObject();
        feeding();
        ending();
        houseFaults();
        planFaults();
        lawFaults();
        telling();
        smallerHouse();
        rules();
        debts();
        buyers();
        laws();
        worths();
        laziness();
        steps();
        Check.finish();
    }

    private static void newObject() {
        CraneCloth x = new CraneCloth();
        int[] want = {0, 0, 0, 0, 0, -1, 0, 0, 0, 0, 0, 0, 2, 0, 0, 0, 0, 0};
        for (int i = 0; i < want.length; i++) {
            Check.due(1, "count(" + i + ") of a new object", x.count(i), want[i]);
        }
        Check.due(1, "rule(0) without a house", x.rule(0), -1);
        Check.due(1, "back() without a house", x.back(), -1);
        Check.buyerThrows(1, x, 0, 0);
    }

    private static void feeding() {
        CraneCloth x = new CraneCloth();
        Check.due(2, "feed of nothing", x.feed(0, 0, 0, 0, 0), 0);
        // the bytes are b ; and 0 in between: 'b' 0 ';' 'b'
        Check.due(2, "feed leaves 0 out", x.feed(0x62003b62, 0, 0, 0, 0), 3);
        Check.due(2, "the highest comes first", x.fault(0), -1);
        Check.due(2, "it is b;b", x.text(0), 2);
        x.feed(0x3b62ff00, 0, 0, 0, 0);
        Check.due(2, "bytes are in order", x.fault(0), 0);
        x.end(0);
        Check.due(2, "a byte above 127 is one", x.feed(0x62ff0000, 0, 0, 0, 0x80808080), 6);
        Check.due(2, "a byte above 127 is a fault", x.fault(0), 1);
        x.end(0);
        for (int i = 1; i <= 12; i++) {
            Check.due(2, "feed " + i, x.feed(0x20202020, 0x20202020, 0x20202020, 0x20202020, 0x20202062), 20 * i);
        }
        Check.due(2, "feed of one more than 240", x.feed(0, 0, 0, 0, 1), -1);
        Check.due(2, "feed of nothing to a full tape", x.feed(0, 0, 0, 0, 0), 240);
        x.end(221);
        Check.due(2, "feed of 20 to 221", x.feed(0x20202020, 0x20202020, 0x20202020, 0x20202020, 0x20202062), -1);
        Check.due(2, "refused, the tape is as it was", x.count(4), 221);
        x.end(220);
        Check.due(2, "feed of 20 to 220", x.feed(0x20202020, 0x20202020, 0x20202020, 0x20202020, 0x20202062), 240);
    }

    private static void ending() {
        CraneCloth x = new CraneCloth();
        Check.due(3, "end(0) of nothing", x.end(0), true);
        Check.due(3, "end(1) of nothing", x.end(1), false);
        Check.feed(x, "b;bx");
        Check.due(3, "end(-1)", x.end(-1), false);
        Check.due(3, "end(5) of 4", x.end(5), false);
        Check.due(3, "end(4) of 4", x.end(4), true);
        Check.due(3, "still 4", x.count(4), 4);
        Check.due(3, "end(3) of 4", x.end(3), true);
        Check.due(3, "the first 3 are left", x.fault(0), -1);
        Check.due(3, "now 3", x.count(4), 3);
        Check.feed(x, ";b");
        Check.due(3, "fed behind the end", x.text(0), 3);
    }

    private static void houseFault(String text, int want) {
        Check.due(4, "fault(0) of '" + text + "'", Check.fault(new CraneCloth(), 0, text), want);
    }

    private static void houseFaults() {
        houseFault("", 0);
        houseFault("   ", 3);
        houseFault("b", -1);
        houseFault(" b ", -1);
        houseFault("B", 0);
        houseFault(";", 0);
        houseFault("b;", 2);
        houseFault("b; ", 3);
        houseFault("b;;b", 2);
        houseFault("bp", 2);
        houseFault("bp ", 3);
        houseFault("bpx", 2);
        houseFault("bp;", 2);
        houseFault("bp1 2", 4);
        houseFault("bp12q", 5);
        houseFault("bp 5 q 3 n 9", -1);
        houseFault("bn9q30p60", -1);
        houseFault("bn09q00p01", -1);
        houseFault("bn10", 3);
        houseFault("bn1 0", 4);
        houseFault("bn00", 3);
        houseFault("bn0", 2);
        houseFault("bn000", 4);
        houseFault("bn001", 4);
        houseFault("bp600", 4);
        houseFault("bp999", 4);
        houseFault("bp61;", 3);
        houseFault("bq31", 3);
        houseFault("bq30", -1);
        houseFault("bp1q1p1", 5);
        houseFault("bv1", 1);
        houseFault("bw1", 1);
        houseFault("b:", 1);
        houseFault("s", 1);
        houseFault("s;d", 3);
        houseFault("s;b;s", 4);
        houseFault("b;s;s", 4);
        houseFault("sw60m60g9t20p9k9l20;b", -1);
        houseFault("sw0m1g0t1p0k0l1;b", -1);
        houseFault("sw61;b", 3);
        houseFault("sm61;b", 3);
        houseFault("sm0;b", 2);
        houseFault("sg10;b", 3);
        houseFault("st21;b", 3);
        houseFault("st0;b", 2);
        houseFault("sp10;b", 3);
        houseFault("sk10;b", 3);
        houseFault("sl0;b", 2);
        houseFault("sl21;b", 3);
        houseFault("sn1;b", 1);
        houseFault("sw40;b", -1);
        houseFault("sw41;b", 6);
        houseFault("sm29;b", 6);
        houseFault("sm29w29;b", -1);
        houseFault("b;sw41 ", 7);
        houseFault("sw41;bx", 6);
        houseFault("dn60v99i9;b", -1);
        houseFault("dn1v1i0;b", -1);
        houseFault("dn0;b", 2);
        houseFault("dn61;b", 3);
        houseFault("dv0;b", 2);
        houseFault("dv100;b", 4);
        houseFault("di10;b", 3);
        houseFault("dp1;b", 1);
        houseFault("d;d;d;d;d;d;b", -1);
        houseFault("d;d;d;d;d;d;d;b", 12);
        houseFault("b;b;b;b;b", -1);
        houseFault("b;b;b;b;b;b", 10);
        houseFault("b;b;b;b;b; b", 11);
        houseFault("s;d;d;d;d;d;d;b;b;b;b;b", -1);
        houseFault("s;d;d;d;d;d;d;b;b;b;b;b;b", 24);
        fullHouseFaults();
        Check.due(4, "fault(3)", new CraneCloth().fault(3), -2);
        Check.due(4, "fault(-1)", new CraneCloth().fault(-1), -2);
    }

    /** Behind all clauses that a house can have the fault is at the next sign, whichever it is, or at the length. */
    private static void fullHouseFaults() {
        String[] full = {"s;d;d;d;d;d;d;b;b;b;b;b", "b;b;d;d;d;s;d;d;b;d;b;b", " s ; d;d;d;d;d;d;b;b;b;b;b "};
        for (String house : full) {
            int length = house.length();
            houseFault(house, -1);
            houseFault(house + "   ", -1);
            houseFault(house + ";", length + 1);
            houseFault(house + ";  ", length + 3);
            houseFault(house + " ; ", length + 3);
            houseFault(house + "x", length);
            for (String letter : new String[] {"s", "d", "b", "x", ";", "p", "1"}) {
                houseFault(house + ";" + letter, length + 1);
                houseFault(house + "; " + letter, length + 2);
                houseFault(house + ";    " + letter + "n1", length + 5);
                houseFault(house + "  ;  " + letter + " ", length + 5);
            }
        }
        houseFault("b; s; s", 6);
        houseFault("d;d;d;d;d;d;  d;b", 14);
        houseFault("s;d;d;d;d;d;d;b;b;b;b;  d", 24);
        houseFault("s;d;d;d;d;d;d;b;b;b;b;  s", 24);
    }

    private static void planFault(String text, int want) {
        Check.due(4, "fault(2) of '" + text + "'", Check.fault(new CraneCloth(), 2, text), want);
    }

    private static void planFaults() {
        planFault("", 0);
        planFault("c", -1);
        planFault(" c ; c ", -1);
        planFault("c;", 2);
        planFault(";c", 0);
        planFault("cc", 1);
        planFault("c0", 1);
        planFault("w", 1);
        planFault("w0;w1;w2;w3", -1);
        planFault("w4", 1);
        planFault("w 4", 2);
        planFault("w00", 2);
        planFault("wx", 1);
        planFault("s", 1);
        planFault("s9", 2);
        planFault("s91", -1);
        planFault("s 9 1", -1);
        planFault("s92", 2);
        planFault("s9 ;", 3);
        planFault("s901", 3);
        planFault("p", 1);
        planFault("p9", -1);
        planFault("p99", 2);
        planFault("px", 1);
        planFault("x", 0);
        planFault("c;c;c;c;c;c;c;c;c;c;c;c;c;c;c;c", -1);
        planFault("c;c;c;c;c;c;c;c;c;c;c;c;c;c;c;c;", 31);
        planFault("c;c;c;c;c;c;c;c;c;c;c;c;c;c;c;c ;c", 32);
        planFault("c;c;c;c;c;c;c;c;c;c;c;c;c;c;c;cx", 31);
    }

    private static void lawFault(String text, int want) {
        Check.due(4, "fault(1) of '" + text + "'", Check.fault(new CraneCloth(), 1, text), want);
    }

    private static void lawFaults() {
        lawFault("", 0);
        lawFault("y", 1);
        lawFault("y:", 2);
        lawFault("x:1", 0);
        lawFault("y1", 1);
        lawFault("y:1", -1);
        lawFault(" y : 1 ", -1);
        lawFault("y:1;", 4);
        lawFault("y:1;y:2", -1);
        lawFault("y:1;2", 4);
        lawFault("y:9999", -1);
        lawFault("y:00000", 6);
        lawFault("y:12 3", 5);
        lawFault("y:w+t-k*n/y*m", -1);
        lawFault("y:w+", 4);
        lawFault("y:+w", 2);
        lawFault("y:-1", 2);
        lawFault("y:w w", 4);
        lawFault("y:w1", 3);
        lawFault("y:1w", 3);
        lawFault("y:x", 2);
        lawFault("y:[1", 4);
        lawFault("y:[1]", -1);
        lawFault("y:[]", 3);
        lawFault("y:[1)", 4);
        lawFault("y:[1=2]", 4);
        lawFault("y:1]", 3);
        lawFault("y:1)", 3);
        lawFault("y:(1)", 4);
        lawFault("y:(1=1)", 7);
        lawFault("y:(1=1)?1", -1);
        lawFault("y:(1=1)+1", 7);
        lawFault("y:(1=1)=1", 7);
        lawFault("y:(1=1", 6);
        lawFault("y:(1=1]", 6);
        lawFault("y:w+(1=1)?1", 4);
        lawFault("y:1=1", 5);
        lawFault("y:1=1;", 5);
        lawFault("y:1=1?", 6);
        lawFault("y:1=1?1", -1);
        lawFault("y:1=1?1?", 7);
        lawFault("y:1=1?1=1", 7);
        lawFault("y:1=1?!1", 6);
        lawFault("y:1=1?(1", 6);
        lawFault("y:1==1", 4);
        lawFault("y:1=1=1?1", 5);
        lawFault("y:1&1", 3);
        lawFault("y:1?1", 3);
        lawFault("y:1=1&", 6);
        lawFault("y:1=1&1?", 7);
        lawFault("y:1=1&2<3|4>5?1", -1);
        lawFault("y:1=1||1=1?1", 6);
        lawFault("y:!1=1?1", -1);
        lawFault("y:!1?1", 4);
        lawFault("y:!1;", 4);
        lawFault("y:!(1=1)&!!2=2?1", -1);
        lawFault("y:1=1&!2=2?1", -1);
        lawFault("y:1!1", 3);
        lawFault("y:1=!1", 4);
        lawFault("y:1=(1", 4);
        lawFault("y:((1=1|2=2)&3=3)?1", -1);
        lawFault("y:(1=1)(2=2)?1", 7);
        lawFault("y:(1=1?1", 6);
        lawFault("y:[[[[[[1]]]]]]", -1);
        lawFault("y:[[[[[[[1]]]]]]]", 8);
        lawFault("y:[1]+[2]+[3]+[4]+[5]+[6]+[7]", -1);
        lawFault("y:!!!!!!1=1?1", -1);
        lawFault("y:!!!!!![1]=1?1", 8);
        lawFault("y:!!!!!!1=[1]?1", 10);
        lawFault("y:!!!!!!1=1&[1]=1?1", -1);
        lawFault("y:!!!!!!1=1?[1]", -1);
        lawFault("y:1=1?[[[[[[1]]]]]]", -1);
        lawFault("y:1=1?[[[[[[[1]]]]]]]", 12);
        lawFault("y:!(!(![1]=1))?1", -1);
        lawFault("y:!(!(![[1]]=1))?1", 8);
        lawFault("y:(((!!!1=1)))?1", -1);
        lawFault("y:(((!!!(1=1))))?1", 8);
        lawFault("y:((((((1=1))))))?1", -1);
        lawFault("y:(((((((1=1)))))))?1", 8);
    }

    private static void telling() {
        CraneCloth x = new CraneCloth();
        Check.due(5, "text(-1)", x.text(-1), -1);
        Check.due(5, "text(3)", x.text(3), -1);
        Check.feed(x, "b;x");
        Check.due(5, "text(0) with a fault", x.text(0), -1);
        Check.due(5, "the tape is as it was", x.count(4), 3);
        Check.due(5, "no house", x.image(), -1);
        x.end(1);
        Check.due(5, "text(0)", x.text(0), 1);
        Check.due(5, "the tape is empty then", x.count(4), 0);
        for (int i = 0; i < 4; i++) {
            Check.due(5, "law " + i, Check.tell(x, 1, "y:" + (i + 1)), i);
            Check.due(5, "the tape is empty behind a law", x.count(4), 0);
            Check.due(5, "plan " + i, Check.tell(x, 2, "w" + i), i);
            Check.due(5, "the tape is empty behind a plan", x.count(4), 0);
        }
        Check.due(5, "a fifth law", Check.tell(x, 1, "y:1"), -1);
        Check.due(5, "its text is left", x.count(4), 3);
        Check.due(5, "a fifth plan", Check.tell(x, 2, "c"), -1);
        Check.due(5, "laws", x.count(2), 4);
        Check.due(5, "plans", x.count(3), 4);
        x.law(1);
        x.lazy(7);
        Check.weeks(x, "110");
        x.give(9);
        x.cut();
        x.sell(0, 1);
        x.iron(true);
        x.test(0, true);
        x.sign(1, 3, true);
        x.image();
        Check.weeks(x, "3");
        Check.due(5, "text(0) of another house", Check.tell(x, 0, "sw12k4;dv7;b;b"), 2);
        int[] want = {2, 1, 4, 4, 0, 1, 0, 0, 0, 0, 0, 0, 7, 0, 0, 0, 0, 0};
        for (int i = 0; i < want.length; i++) {
            Check.due(5, "count(" + i + ") of another house", x.count(i), want[i]);
        }
        Check.due(5, "down is new", x.rule(0), 12);
        Check.due(5, "doubt is new", x.rule(5), 4);
        Check.due(5, "the law holds", x.rule(3), 2);
        Check.due(5, "no image of this house", x.back(), -1);
        Check.due(5, "nothing to undo", x.undo(), -1);
        Check.due(5, "nothing was bought", x.buyer(0, 3), 0);
        Check.due(5, "nothing was paid", x.debt(0, 4), 0);
        Check.due(5, "a step is still there", x.step(3, 0, 1), 3);
        Check.due(5, "no tests", x.crane(), 500000);
        Check.due(5, "no log", x.log(0, 0), -1);
        Check.weeks(x, "1");
        String before = Check.seen(x);
        Check.feed(x, "q");
        Check.due(5, "a house with a fault", x.text(0), -1);
        x.end(0);
        Check.same(5, "a refused house changes nothing", Check.seen(x), before);
    }

    /** Rows of houses that were larger must not show through. */
    private static void smallerHouse() {
        CraneCloth x = new CraneCloth();
        String large = "sl20;dn1v9;dn1v9;dn1v9;dn1v9;dn1v9;dn1v9;b;b;b;b;b";
        for (int i = 0; i < 2; i++) {
            Check.due(5, "a large house", Check.tell(x, 0, large), 5);
            Check.weeks(x, "100");
            x.give(99);
            for (int d = 0; d < 6; d++) {
                x.pay(d);
            }
            x.sell(1, 0);
        }
        Check.due(5, "a small house", Check.tell(x, 0, "d;b"), 1);
        Check.weeks(x, "1100000000000");
        x.give(1);
        Check.due(5, "one debt is owed", x.owed(0), 23);
        Check.due(5, "one debt is late", x.owed(1), 1);
        Check.due(5, "one debt grows", x.paying(1), 1);
        Check.due(5, "no such buyer", x.sell(1, 0), -1);
        Check.due(5, "no such debt", x.pay(1), -1);
        Check.due(5, "one buyer", x.market(0), 40);
        x.give(99);
        Check.due(5, "the debt can be paid", x.pay(0), 77);
    }

    private static void rules() {
        CraneCloth x = Check.house(HOUSE);
        int[] want = {20, 30, 4, 8, 3, 2, 6};
        for (int i = 0; i < want.length; i++) {
            Check.due(6, "rule(" + i + ")", x.rule(i), want[i]);
        }
        Check.due(6, "rule(-1)", x.rule(-1), -1);
        Check.due(6, "rule(7)", x.rule(7), -1);
        Check.weeks(x, "1");
        Check.due(6, "down now", x.rule(0), 16);
        Check.due(6, "doubt now", x.rule(5), 3);
        CraneCloth usual = Check.house("b");
        int[] usualWant = {30, 40, 3, 8, 3, 2, 10};
        for (int i = 0; i < usualWant.length; i++) {
            Check.due(6, "rule(" + i + ") without s", usual.rule(i), usualWant[i]);
        }
        CraneCloth some = Check.house("b;sl3g0");
        int[] someWant = {30, 40, 0, 8, 3, 2, 3};
        for (int i = 0; i < someWant.length; i++) {
            Check.due(6, "rule(" + i + ") with two items", some.rule(i), someWant[i]);
        }
    }

    private static void debts() {
        CraneCloth x = Check.house("d;b;dn2v10i3");
        int[][] want = {{10, 20, 1, 20, 0}, {2, 10, 3, 10, 0}};
        for (int d = 0; d < 2; d++) {
            for (int what = 0; what <= 4; what++) {
                Check.due(7, "debt(" + d + ", " + what + ")", x.debt(d, what), want[d][what]);
            }
        }
        Check.due(7, "debt(2, 0)", x.debt(2, 0), -1);
        Check.due(7, "debt(-1, 0)", x.debt(-1, 0), -1);
        Check.due(7, "debt(0, 5)", x.debt(0, 5), -1);
        Check.due(7, "debt(0, -1)", x.debt(0, -1), -1);
        Check.weeks(x, "00");
        Check.due(7, "when it is due", x.debt(1, 3), 10);
        Check.weeks(x, "0");
        Check.due(7, "a week late", x.debt(1, 3), 13);
        Check.weeks(x, "0000");
        Check.due(7, "five weeks late", x.debt(1, 3), 25);
        Check.riches(x, 30);
        x.pay(1);
        Check.due(7, "paid", x.debt(1, 4), 1);
        Check.due(7, "not paid", x.debt(0, 4), 0);
        Check.due(7, "its sum stays", x.debt(1, 1), 10);
    }

    private static void buyers() {
        CraneCloth x = Check.house("bp0q1n1;b;d");
        int[][] want = {{0, 1, 1, 0}, {20, 8, 3, 0}};
        for (int b = 0; b < 2; b++) {
            for (int what = 0; what <= 3; what++) {
                Check.due(8, "buyer(" + b + ", " + what + ")", x.buyer(b, what), want[b][what]);
            }
        }
        Check.buyerThrows(8, x, 2, 0);
        Check.buyerThrows(8, x, -1, 0);
        Check.buyerThrows(8, x, 0, 4);
        Check.buyerThrows(8, x, 0, -1);
        Check.weeks(x, "11");
        x.sell(1, 0);
        x.cut();
        x.sell(1, 1);
        Check.due(8, "wants still", x.buyer(1, 2), 1);
        Check.due(8, "bought", x.buyer(1, 3), 2);
        Check.due(8, "the other one bought nothing", x.buyer(0, 3), 0);
        Check.due(8, "what it pays stays", x.buyer(1, 0), 20);
    }

    private static void laws() {
        CraneCloth x = new CraneCloth();
        Check.due(9, "law(0) without one", x.law(0), false);
        Check.due(9, "law(-1) without one", x.law(-1), true);
        Check.tell(x, 1, "y:5");
        Check.tell(x, 1, "y:6");
        Check.due(9, "none holds", x.count(5), -1);
        Check.due(9, "law(1) without a house", x.law(1), true);
        Check.due(9, "law(2)", x.law(2), false);
        Check.due(9, "law(-2)", x.law(-2), false);
        Check.due(9, "refused, it holds still", x.count(5), 1);
        Check.tell(x, 0, "b");
        Check.due(9, "takes by law 1", x.rule(3), 6);
        Check.due(9, "law(1) again", x.law(1), true);
        x.law(0);
        Check.due(9, "takes by law 0", x.rule(3), 5);
        x.law(-1);
        Check.due(9, "takes as told", x.rule(3), 8);
        Check.due(9, "no act", x.count(17), 0);
    }

    private static void worth(String law, int want) {
        CraneCloth x = Check.house("sw20t8k2;b");
        // week 3, two woven, down 13, doubt 4, money 7
        Check.weeks(x, "112");
        x.give(4);
        Check.due(9, "told: " + law, Check.tell(x, 1, law), 0);
        x.law(0);
        Check.due(9, "takes by " + law, x.rule(3), want);
    }

    private static void worths() {
        worth("y:w", 13);
        worth("y:t", 8);
        worth("y:k", 4);
        worth("y:n", 2);
        worth("y:y", 3);
        worth("y:m", 7);
        worth("y:61", 60);
        worth("y:60", 60);
        worth("y:0-1", 0);
        worth("y:10-3-2", 5);
        worth("y:10-[3-2]", 9);
        worth("y:2+3*4", 14);
        worth("y:[2+3]*4", 20);
        worth("y:40/7/2", 2);
        worth("y:40/[7/2]", 13);
        worth("y:7/0+5", 5);
        worth("y:20+[0-7]/2", 17);
        worth("y:9999*9999/9999/4", 25);
        worth("y:9999*9999/9999*9999/9999", 60);
        worth("y:[0-9999*9999]+9999*100+150", 50);
        worth("y:9999*9999-9999*100-90", 10);
        worth("y:9999*100+9999-9999*100-50", 50);
        worth("y:0-9999*100-9999+9999*100+130", 30);
        worth("y:1=2?5", 0);
        worth("y:1=2?5;y:6", 6);
        worth("y:1=1?5;y:6", 5);
        worth("y:1<2?5;y:6", 5);
        worth("y:2<2?5;y:6", 6);
        worth("y:2>1?5;y:6", 5);
        worth("y:2>2?5;y:6", 6);
        worth("y:1=2|1=1?5;y:6", 5);
        worth("y:1=2|1=3?5;y:6", 6);
        worth("y:1=1&1=2?5;y:6", 6);
        worth("y:1=1&2=2?5;y:6", 5);
        worth("y:1=1|1=2&1=2?5;y:6", 5);
        worth("y:(1=1|1=2)&1=2?5;y:6", 6);
        worth("y:!1=1?5;y:6", 6);
        worth("y:!1=2?5;y:6", 5);
        worth("y:!!1=1?5;y:6", 5);
        worth("y:!1=1|1=1?5;y:6", 5);
        worth("y:!(1=1|1=1)?5;y:6", 6);
        worth("y:w>k+n*3?w-k;y:1", 9);
        worth("y:1=2?5;y:1=3?6;y:k=4?7;y:8", 7);
        worth("y : w > 9999 ? 5 ; y : 1 + 2 ", 3);
        worth("y:((1=1&2=2)&(3=3&(4=4&5=5)))?[[1+2]*[3+4]]/[1+[1+[1+0]]]", 7);
    }

    private static void laziness() {
        CraneCloth x = new CraneCloth();
        Check.due(10, "lazy(2) at first", x.lazy(2), false);
        Check.due(10, "lazy(-1)", x.lazy(-1), false);
        Check.due(10, "lazy(10)", x.lazy(10), false);
        Check.due(10, "still 2", x.count(12), 2);
        Check.due(10, "lazy(9)", x.lazy(9), true);
        Check.due(10, "now 9", x.count(12), 9);
        Check.due(10, "lazy(9) again", x.lazy(9), false);
        Check.due(10, "lazy(0)", x.lazy(0), true);
        Check.due(10, "now 0", x.count(12), 0);
    }

    private static void steps() {
        CraneCloth x = new CraneCloth();
        Check.due(21, "step without a plan", x.step(0, 0, 0), -1000000);
        Check.tell(x, 2, "w3;c;s91;p7");
        int[][] want = {{0, 3, -1}, {1, -1, -1}, {2, 9, 1}, {3, 7, -1}};
        for (int i = 0; i < 4; i++) {
            for (int what = 0; what < 3; what++) {
                Check.due(21, "step(0, " + i + ", " + what + ")", x.step(0, i, what), want[i][what]);
            }
        }
        Check.due(21, "step(0, 4, 0)", x.step(0, 4, 0), -1000000);
        Check.due(21, "step(0, -1, 0)", x.step(0, -1, 0), -1000000);
        Check.due(21, "step(0, 0, 3)", x.step(0, 0, 3), -1000000);
        Check.due(21, "step(0, 0, -1)", x.step(0, 0, -1), -1000000);
        Check.due(21, "step(1, 0, 0)", x.step(1, 0, 0), -1000000);
        Check.due(21, "step(-1, 0, 0)", x.step(-1, 0, 0), -1000000);
        Check.tell(x, 2, "c;w");
        Check.due(21, "a plan with a fault is none", x.step(1, 0, 0), -1000000);
        Check.tell(x, 2, "p0");
        Check.due(21, "step(1, 0, 0)", x.step(1, 0, 0), 3);
        Check.due(21, "step(1, 1, 0)", x.step(1, 1, 0), -1000000);
        Check.tell(x, 2, "c;c;c;c;c;c;c;c;c;c;c;c;c;c;c;w2");
        Check.due(21, "step(2, 15, 1)", x.step(2, 15, 1), 2);
    }
}
