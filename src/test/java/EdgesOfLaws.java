/** Boundary cases of a law's text (promise 4) and of what a bolt takes by it (promises 6, 9). */
final class EdgesOfLaws {
    private static final int NONE = Edge.NONE;

    private EdgesOfLaws() {
    }

    static void all() {
        promise4_oneClauseAtLeast();
        promise4_perhapsCondition();
        promise4_numbers();
        promise4_letters();
        promise4_bracketsAndSigns();
        promise4_notOrOpenBehindColon();
        promise4_sixWithin();
        promise4_seventh();
        promise4_blanks();
        promise4_endsTooEarly();
        promise9_withinMillion();
        promise9_cutsTowardsZero();
        promise9_byZero();
        promise9_firstClauseThatHolds();
        promise9_orderOfSigns();
        promise9_longest();
        promise6_heldWithin();
        promise6_lettersOfLaw();
    }

    private static void fault(String text, int want) {
        Edge.due("fault(1) of '" + text + "'", Check.fault(new CraneCloth(), 1, text), want);
    }

    private static void takes(String law, int want) {
        CraneCloth x = Check.house("b");
        Edge.due("text(1) of '" + law + "'", Check.tell(x, 1, law), 0);
        x.law(0);
        Edge.due("takes by '" + law + "'", x.rule(3), want);
    }

    private static void promise4_oneClauseAtLeast() {
        Edge.of(4, "CLAUSES with ; between, one at least");
        fault("", 0);
        fault(" ", 1);
        fault(";", 0);
        fault("y:1", NONE);
        fault("y:1;y:2", NONE);
        fault("y:1;", 4);
        fault("y:1;;y:2", 4);
        fault(";y:1", 0);
        fault("y:1;2", 4);
        fault("y:1,y:2", 3);
        fault("y:1;x:2", 4);
        fault("y:1y:2", 3);
    }

    private static void promise4_perhapsCondition() {
        Edge.of(4, "perhaps CONDITION ?, then SUM");
        fault("y:1", NONE);
        fault("y:1=1?1", NONE);
        fault("y:1=1", 5);
        fault("y:1=1;y:1", 5);
        fault("y:?1", 2);
        fault("y:1?1", 3);
        fault("y:1=1?", 6);
        fault("y:1=1??1", 6);
        fault("y:1=1?1=1", 7);
        fault("y:1=1?1?1", 7);
        fault("y:1=1?(1)", 6);
        fault("y:1=1?!1", 6);
        fault("y:1=1?[1]", NONE);
        fault("1", 0);
        fault("y1", 1);
        fault(":1", 0);
        fault("y::1", 2);
        fault("y:y:1", 3);
    }

    private static void promise4_numbers() {
        Edge.of(4, "ATOM: a number (1 to 4 digits)");
        fault("y:0", NONE);
        fault("y:0000", NONE);
        fault("y:9999", NONE);
        fault("y:10000", 6);
        fault("y:-1", 2);
        fault("y:+1", 2);
        Edge.of(4, "a fifth one in a LAW) itself");
        fault("y:00000", 6);
        fault("y:99999", 6);
        fault("y:123456", 6);
        fault("y: 12345", 7);
        fault("y:1=12345?1", 8);
        fault("y:1=1?12345", 10);
        fault("y:[12345]", 7);
        fault("y:1+1*12345", 10);
        fault("y:1234 5", 7);
    }

    private static void promise4_letters() {
        Edge.of(4, "a letter (w t k n y m)");
        for (int sign = 33; sign < 256; sign++) {
            String letter = String.valueOf((char) sign);
            boolean one = "wtknym".contains(letter);
            boolean other = "[0123456789(!".contains(letter);
            if (!other) {
                fault("y:" + letter, one ? NONE : 2);
            }
        }
        fault("y:ww", 3);
        fault("y:w1", 3);
        fault("y:1w", 3);
        fault("y:W", 2);
    }

    private static void promise4_bracketsAndSigns() {
        Edge.of(4, "UNIT: ! UNIT, ( CONDITION ), or SUM, one of = < >, SUM");
        fault("y:1=1?1", NONE);
        fault("y:1<1?1", NONE);
        fault("y:1>1?1", NONE);
        fault("y:1==1?1", 4);
        fault("y:1<=1?1", 4);
        fault("y:1=1=1?1", 5);
        fault("y:1=?1", 4);
        fault("y:!?1", 3);
        fault("y:()?1", 3);
        fault("y:(1)?1", 4);
        fault("y:!1?1", 4);
        fault("y:(1=1]?1", 6);
        fault("y:(1=1))?1", 7);
        fault("y:1=(1)?1", 4);
        fault("y:1=!1?1", 4);
        Edge.of(4, "CONDITION: TRUTHS with | between; TRUTH: UNITS with & between");
        fault("y:1=1|1=1&1=1|1=1?1", NONE);
        fault("y:1=1|?1", 6);
        fault("y:1=1&?1", 6);
        fault("y:1=1||1=1?1", 6);
        fault("y:1=1&|1=1?1", 6);
        fault("y:|1=1?1", 2);
        fault("y:1|1=1?1", 3);
        fault("y:1=1|1?1", 7);
        Edge.of(4, "SUM: TERMS with + or - between; TERM: ATOMS with * or / between");
        fault("y:1+1-1*1/1", NONE);
        fault("y:1+", 4);
        fault("y:1*", 4);
        fault("y:1+*1", 4);
        fault("y:1--1", 4);
        fault("y:*1", 2);
        Edge.of(4, "[ SUM ]");
        fault("y:[1]", NONE);
        fault("y:[]", 3);
        fault("y:[1", 4);
        fault("y:[1)", 4);
        fault("y:1]", 3);
        fault("y:[1=1]", 4);
        fault("y:[(1)]", 3);
        fault("y:[!1]", 3);
    }

    private static void promise4_notOrOpenBehindColon() {
        Edge.of(4, "(A CLAUSE that goes on with ! or ( behind its : has a CONDITION.)");
        fault("y:!1=1", 6);
        fault("y:!1=1?1", NONE);
        fault("y:!1;y:1", 4);
        fault("y:(1=1)", 7);
        fault("y:(1=1)?1", NONE);
        fault("y:(1)+1", 4);
        fault("y:(1+1)", 6);
        fault("y:(1=1)+1", 7);
        fault("y: (1=1);y:1", 8);
        fault("y:1=1?1;y:(1)", 12);
    }

    private static void promise4_sixWithin() {
        Edge.of(4, "At most six of ( [ ! within one another.");
        fault("y:[[[[[[1]]]]]]", NONE);
        fault("y:((((((1=1))))))?1", NONE);
        fault("y:!!!!!!1=1?1", NONE);
        fault("y:(!(!([1]=1)))?1", NONE);
        fault("y:!(!(!([1]=1)))?1", 8);
        // side by side is not within one another
        fault("y:[1]+[1]+[1]+[1]+[1]+[1]+[1]+[1]", NONE);
        fault("y:(1=1)&(1=1)&(1=1)&(1=1)&(1=1)&(1=1)&(1=1)?1", NONE);
        fault("y:!1=1&!1=1&!1=1&!1=1&!1=1&!1=1&!1=1?1", NONE);
        fault("y:!!!!!!1=1|!!!!!!1=1?[[[[[[1]]]]]]", NONE);
        fault("y:[[[[[[1]]]]]]+[[[[[[1]]]]]]=[[[[[[1]]]]]]?[[[[[[1]]]]]]", NONE);
        fault("y:((((([1]=1)&[2]=2))))?1", NONE);
    }

    private static void promise4_seventh() {
        Edge.of(4, "a seventh of ( [ ! in a LAW at it");
        fault("y:[[[[[[[1]]]]]]]", 8);
        fault("y:(((((((1=1)))))))?1", 8);
        fault("y:!!!!!!!1=1?1", 8);
        fault("y:!!!!!!(1=1)?1", 8);
        fault("y:!!!!!![1]=1?1", 8);
        fault("y:((((((!1=1))))))?1", 8);
        fault("y:(((((([1]=1))))))?1", 8);
        fault("y:((((((1=[1]))))))?1", 10);
        fault("y:[[[[[[ [1]]]]]]]", 9);
        fault("y:1=1?[[[[[[[1]]]]]]]", 12);
        fault("y:1=[[[[[[[1]]]]]]]?1", 10);
        fault("y:1;y:[[[[[[[1]]]]]]]", 12);
        fault("y:[[[[[[[", 8);
        fault("y:[[[[[[", 8);
        fault("y:!!!!!!", 8);
        fault("y:((((((1=1)&!!!!!1=1)))))?1", 14);
        // far more than a machine's stack is asked to hold
        fault("y:" + "[".repeat(238), 8);
        fault("y:" + "!".repeat(238), 8);
        fault("y:" + "(".repeat(238), 8);
    }

    private static void promise4_blanks() {
        Edge.of(4, "may stand between all signs of these");
        fault("  y  :  !  (  w  +  1  <  2  |  t  =  3  &  k  >  4  )  ?  [  n  -  5  ]  *  6  /  y  ;  y  :  m  ", NONE);
        takes(" y : 1 = 2 ? 3 ; y : 4 + [ 5 ] ", 9);
        Edge.of(4, "Blanks (32) may stand between all signs of these, not within numbers");
        fault("y:1 2", 4);
        fault("y:12 34", 5);
        fault("y:1\t", 3);
        fault("y\t:1", 1);
    }

    private static void promise4_endsTooEarly() {
        Edge.of(4, "(the length, if it ends too early");
        // cut anywhere, such a text is whole or ends too early
        String law = "y:!(w+1<2|t=3&k>4)?[n-5]*6/y;y:m";
        for (int length = 0; length < law.length(); length++) {
            boolean whole = length == 24 || length == 26 || length == 28;
            fault(law.substring(0, length), whole ? NONE : length);
            fault(law.substring(0, length) + "  ", whole ? NONE : length + 2);
        }
        fault(law, NONE);
    }

    private static void promise9_withinMillion() {
        Edge.of(9, "Behind each sign numbers are within -1,000,000 .. 1,000,000");
        // 9999 * 100 is 999,900
        takes("y:1000*1000-9999*100-50", 50);
        takes("y:999*1001-9999*100-50", 49);
        takes("y:1000*1000+1-9999*100-50", 50);
        takes("y:999*1001+1-9999*100-50", 50);
        takes("y:999*1001+2-9999*100-50", 50);
        takes("y:9999*9999-9999*100-50", 50);
        takes("y:101*9901-9999*100-50", 50);
        takes("y:0-1000*1000+9999*100+150", 50);
        takes("y:0-999*1001+9999*100+150", 51);
        takes("y:0-1000*1000-1+9999*100+150", 50);
        takes("y:0-999*1001-1+9999*100+150", 50);
        takes("y:0-999*1001-2+9999*100+150", 50);
        takes("y:[0-9999]*9999+9999*100+150", 50);
        takes("y:[0-101]*9901+9999*100+150", 50);
        takes("y:[0-9999]*[0-9999]-9999*100-50", 50);
        // more than 32 bits hold
        takes("y:1000*1000*9999-9999*100-50", 50);
        takes("y:[1000*1000]*[1000*1000]-9999*100-50", 50);
        takes("y:[0-1000*1000]*[1000*1000]+9999*100+150", 50);
        takes("y:1000*1000*1000/1000", 60);
        takes("y:1000*1000*1000/1000/100", 10);
        takes("y:9999*9999=1000*1000?5;y:6", 5);
        takes("y:1000*1000>999*1001?5;y:6", 5);
        takes("y:0-9999*9999<0-999*1001?5;y:6", 5);
    }

    private static void promise9_cutsTowardsZero() {
        Edge.of(9, "/ cuts towards 0");
        takes("y:7/2", 3);
        takes("y:8/2", 4);
        takes("y:1/2", 0);
        takes("y:20+[0-7]/2", 17);
        takes("y:20+7/[0-2]", 17);
        takes("y:20+[0-7]/[0-2]", 23);
        takes("y:20+[0-1]/2", 20);
        takes("y:0/7", 0);
    }

    private static void promise9_byZero() {
        Edge.of(9, "by 0 gives 0");
        takes("y:7/0", 0);
        takes("y:20+7/0", 20);
        takes("y:20+[0-7]/0", 20);
        takes("y:20+0/0", 20);
        takes("y:20+7/[1-1]", 20);
        takes("y:20+7/n", 20);
        takes("y:20+8/0*9", 20);
        takes("y:1/0=0?5;y:6", 5);
    }

    private static void promise9_firstClauseThatHolds() {
        Edge.of(9, "the SUM of the first CLAUSE whose CONDITION holds (or has none), 0 without");
        takes("y:1=1?5;y:1=1?6;y:7", 5);
        takes("y:1=2?5;y:1=1?6;y:7", 6);
        takes("y:1=2?5;y:1=2?6;y:7", 7);
        takes("y:5;y:6", 5);
        takes("y:5;y:1=1?6", 5);
        takes("y:1=2?5", 0);
        takes("y:1=2?5;y:1=3?6", 0);
    }

    private static void promise9_orderOfSigns() {
        Edge.of(9, "SUM, one of = < >, SUM");
        takes("y:3=3?5;y:6", 5);
        takes("y:3=4?5;y:6", 6);
        takes("y:3<4?5;y:6", 5);
        takes("y:3<3?5;y:6", 6);
        takes("y:4<3?5;y:6", 6);
        takes("y:4>3?5;y:6", 5);
        takes("y:3>3?5;y:6", 6);
        takes("y:3>4?5;y:6", 6);
        Edge.of(9, "UNIT: ! UNIT, ( CONDITION ), or SUM, one of = < >, SUM");
        String[] hold = {"3=3", "3<4", "4>3", "!3=4", "!4<3", "!3>4", "(3=3)", "(3<4|3=4)", "(4>3&3=3)"};
        String[] fail = {"3=4", "4<3", "3>4", "!3=3", "!3<4", "!4>3", "(3=4)", "(4<3|3=4)", "(4>3&3=4)"};
        for (String one : hold) {
            takes("y:!" + one + "?5;y:6", 6);
            takes("y:!!" + one + "?5;y:6", 5);
            for (String other : hold) {
                takes("y:" + one + "&" + other + "?5;y:6", 5);
                takes("y:" + one + "|" + other + "?5;y:6", 5);
                takes("y:!(" + one + "|" + other + ")?5;y:6", 6);
            }
            for (String other : fail) {
                takes("y:" + one + "&" + other + "?5;y:6", 6);
                takes("y:" + other + "&" + one + "?5;y:6", 6);
                takes("y:" + one + "|" + other + "?5;y:6", 5);
                takes("y:" + other + "|" + one + "?5;y:6", 5);
            }
        }
        for (String one : fail) {
            takes("y:!" + one + "?5;y:6", 5);
            for (String other : fail) {
                takes("y:" + one + "|" + other + "?5;y:6", 6);
                takes("y:!(" + one + "|" + other + ")?5;y:6", 5);
            }
        }
        Edge.of(9, "TRUTHS with | between; TRUTH: UNITS with & between");
        takes("y:1=1|1=2&1=2?5;y:6", 5);
        takes("y:1=2&1=2|1=1?5;y:6", 5);
        takes("y:(1=1|1=2)&1=2?5;y:6", 6);
        takes("y:!1=2&1=2?5;y:6", 6);
        takes("y:!(1=2&1=2)?5;y:6", 5);
        takes("y:!!!!!!1=1?5;y:6", 5);
        takes("y:!!!!!1=1?5;y:6", 6);
        Edge.of(9, "TERMS with + or - between; TERM: ATOMS with * or / between");
        takes("y:9-3-2", 4);
        takes("y:9-[3-2]", 8);
        takes("y:2+3*4", 14);
        takes("y:2*3+4", 10);
        takes("y:50/5/2", 5);
        takes("y:50/5*2", 20);
    }

    private static void promise9_longest() {
        Edge.of(9, "CLAUSES with ; between, one at least");
        // 240 bytes: 29 clauses that do not hold, and one that does
        takes("y:1=2?3;".repeat(29) + "y:7     ", 7);
        takes("y:" + "0+".repeat(118) + "7 ", 7);
        takes("y:" + "1*".repeat(118) + "7 ", 7);
        takes("y:" + "1=2|".repeat(58) + "1=1?7", 7);
        Edge.of(9, "At most six of ( [ ! within one another.");
        takes("y:0+1*[0+1*[0+1*[0+1*[0+1*[0+1*7]]]]]", 7);
        takes("y:1=2|1=1&(1=2|1=1&(1=2|1=1&(1=2|1=1&(1=2|1=1&(1=2|1=1&0+1*1=0+1*1)))))?7;y:8", 7);
        takes("y:1=2|1=1&(1=2|1=1&(1=2|1=1&(1=2|1=1&(1=2|1=1&0+1*[0+1*7]=0+1*7))))?7;y:8", 7);
    }

    private static void promise6_heldWithin() {
        Edge.of(6, "WORTH by the LAW that holds, held within 0 .. 60");
        for (int number = 0; number <= 60; number++) {
            takes("y:" + number, number);
        }
        takes("y:0-1", 0);
        takes("y:0-9999", 0);
        takes("y:59", 59);
        takes("y:60", 60);
        takes("y:61", 60);
        takes("y:9999", 60);
    }

    private static void promise6_lettersOfLaw() {
        Edge.of(6, "letters: w DOWN, t what is told, k DOUBT, n how many BOLTS she WOVE so far, y the WEEK, m MONEY");
        String[] letters = {"w", "t", "k", "n", "y", "m"};
        // two woven of 7 each, a week of rest, a week of the field; one bolt was sold for 20, one was cut
        int[] want = {28, 7, 5, 2, 4, 24};
        int[] first = {30, 7, 4, 0, 0, 0};
        for (int i = 0; i < letters.length; i++) {
            CraneCloth x = Check.house("st7k4p4;b");
            Check.tell(x, 1, "y:" + letters[i]);
            x.law(0);
            Edge.due(letters[i] + " at first", x.rule(3), first[i]);
            x.law(NONE);
            Check.weeks(x, "1102");
            x.sell(0, 0);
            x.cut();
            x.law(0);
            Edge.due(letters[i] + " then", x.rule(3), want[i]);
            for (int act = 0; act < 6; act++) {
                x.undo();
            }
            Edge.due(letters[i] + " with all undone", x.rule(3), first[i]);
        }
    }
}
