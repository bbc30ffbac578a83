import java.util.Arrays;
import java.util.NoSuchElementException;

/** Cloth of her own feathers: a house, its weeks, its debts and its buyers, told as texts. */
public final class CraneCloth {
    public static final int NONE = -1;
    public static final int HIDDEN = -1000000;

    private static final int NO_SORT = -2;
    private static final int END_OF_TAPE = -1;
    private static final int BLANK = 32;
    private static final int TAPE_MOST = 240;

    private static final int HOUSE_TEXT = 0;
    private static final int LAW_TEXT = 1;
    private static final int PLAN_TEXT = 2;
    private static final int TEXTS_MOST = 4;

    private static final int REST = 0;
    private static final int WEAVE = 1;
    private static final int PLOUGH = 2;
    private static final int LOOK = 3;

    private static final int MONEY_MOST = 9999;
    private static final int WEEK_LAST = 999;
    private static final int DUE_LAST = 60;
    private static final int GIFT_MOST = 99;
    private static final int LIVES_MOST = 60;
    private static final int DOWN_MOST = 60;
    private static final int BOOK_MOST = 60;
    private static final int LOG_MOST = 60;
    private static final int ACTS_MOST = 40;
    private static final int DEBTS_MOST = 6;
    private static final int BUYERS_MOST = 5;

    private static final int DOWN = 0;
    private static final int DOWN_LIMIT = 1;
    private static final int GROWTH = 2;
    private static final int TAKES = 3;
    private static final int FIELD = 4;
    private static final int DOUBT = 5;
    private static final int LOOKS = 6;

    private static final int DUE = 0;
    private static final int SUM = 1;
    private static final int MORE = 2;
    private static final int BOLT = 0;
    private static final int THIRD = 1;
    private static final int WANTS = 2;

    private static final long DRAW_TIMES = 6364136223846793005L;
    private static final long DRAW_PLUS = 1442695040888963407L;

    private final Tape tape = new Tape();
    private final World world = new World();
    private final Life now = new Life();
    private final Life apart = new Life();
    private final Past past = new Past();
    private final Ledger ledger = new Ledger();
    private final Proofs proofs = new Proofs();
    private final Search search = new Search(world);
    private final Life imageLife = new Life();
    private final Ledger imageLedger = new Ledger();
    private boolean imaged;
    private House spareHouse = new House();
    private final LawReader lawReader = new LawReader(tape);
    private final Law[] laws = new Law[TEXTS_MOST];
    private int lawCount;
    private int holding = NONE;
    private final Plan[] plans = new Plan[TEXTS_MOST];
    private int planCount;
    private int laziness = 2;
    private long drawn;

    public CraneCloth() {
        for (int i = 0; i < plans.length; i++) {
            plans[i] = new Plan();
        }
    }

    // ---- texts ----

    public int feed(int a, int b, int c, int d, int e) {
        int more = Tape.bytesIn(a) + Tape.bytesIn(b) + Tape.bytesIn(c) + Tape.bytesIn(d) + Tape.bytesIn(e);
        if (tape.length + more > TAPE_MOST) {
            return NONE;
        }
        tape.append(a);
        tape.append(b);
        tape.append(c);
        tape.append(d);
        tape.append(e);
        return tape.length;
    }

    public boolean end(int n) {
        if (n < 0 || n > tape.length) {
            return false;
        }
        tape.length = n;
        return true;
    }

    public int fault(int sort) {
        switch (sort) {
            case HOUSE_TEXT:
                return spareHouse.readFrom(tape);
            case LAW_TEXT:
                return lawReader.readLaw();
            case PLAN_TEXT:
                return Plan.readFrom(tape, null);
            default:
                return NO_SORT;
        }
    }

    public int text(int sort) {
        switch (sort) {
            case HOUSE_TEXT:
                return tellHouse();
            case LAW_TEXT:
                return tellLaw();
            case PLAN_TEXT:
                return tellPlan();
            default:
                return NONE;
        }
    }

    private int tellHouse() {
        if (spareHouse.readFrom(tape) != NONE) {
            return NONE;
        }
        House left = world.house;
        world.house = spareHouse;
        spareHouse = left;
        world.house.told = true;
        now.begin(world.house);
        past.forget();
        proofs.forget();
        imaged = false;
        tape.length = 0;
        return world.house.buyerCount;
    }

    private int tellLaw() {
        if (lawCount >= laws.length || lawReader.readLaw() != NONE) {
            return NONE;
        }
        laws[lawCount] = lawReader.makeLaw();
        lawCount++;
        tape.length = 0;
        return lawCount - 1;
    }

    private int tellPlan() {
        if (planCount >= plans.length || Plan.readFrom(tape, plans[planCount]) != NONE) {
            return NONE;
        }
        planCount++;
        tape.length = 0;
        return planCount - 1;
    }

    // ---- what was told, and how it stands ----

    private boolean homeless() {
        return !world.house.told;
    }

    private static boolean within(int value, int low, int high) {
        return value >= low && value <= high;
    }

    public int rule(int what) {
        if (homeless() || !within(what, DOWN, LOOKS)) {
            return NONE;
        }
        switch (what) {
            case DOWN:
                return now.down;
            case TAKES:
                return world.takes(now);
            case DOUBT:
                return now.doubt;
            default:
                return world.house.rules[what];
        }
    }

    public int debt(int debt, int what) {
        if (!hasDebt(debt)) {
            return NONE;
        }
        switch (what) {
            case 0:
            case 1:
            case 2:
                return world.house.debts[3 * debt + what];
            case 3:
                return world.owes(debt, now.week);
            case 4:
                return now.hasPaid(debt) ? 1 : 0;
            default:
                return NONE;
        }
    }

    private boolean hasDebt(int debt) {
        return world.house.told && within(debt, 0, world.house.debtCount - 1);
    }

    private boolean hasBuyer(int buyer) {
        return world.house.told && within(buyer, 0, world.house.buyerCount - 1);
    }

    public int buyer(int buyer, int what) throws NoSuchElementException {
        if (!hasBuyer(buyer) || !within(what, 0, 3)) {
            throw new NoSuchElementException("no such buyer, or nothing of the kind is known of it");
        }
        switch (what) {
            case 2:
                return world.wants(now, buyer);
            case 3:
                return now.sold[buyer];
            default:
                return world.house.buyers[3 * buyer + what];
        }
    }

    public boolean law(int law) {
        if (!within(law, NONE, lawCount - 1)) {
            return false;
        }
        holding = law;
        world.law = law == NONE ? null : laws[law];
        return true;
    }

    public boolean lazy(int v) {
        if (!within(v, 0, 9) || v == laziness) {
            return false;
        }
        laziness = v;
        return true;
    }

    public int count(int what) {
        switch (what) {
            case 0:
                return homeless() ? 0 : world.house.buyerCount;
            case 1:
                return homeless() ? 0 : world.house.debtCount;
            case 2:
                return lawCount;
            case 3:
                return planCount;
            case 4:
                return tape.length;
            case 5:
                return holding;
            case 12:
                return laziness;
            case 13:
                return proofs.testCount;
            case 14:
                return proofs.signCount;
            case 17:
                return past.acts;
            default:
                return countOfLife(what);
        }
    }

    private int countOfLife(int what) {
        switch (what) {
            case 6:
                return now.week;
            case 7:
                return now.money;
            case 8:
                return now.bolts;
            case 9:
                return now.thirds;
            case 10:
                return now.gone ? 1 : 0;
            case 11:
                return now.iron ? 1 : 0;
            case 15:
                return now.woven;
            case 16:
                return Math.min(now.logged, LOG_MOST);
            default:
                return HIDDEN;
        }
    }

    // ---- acts ----

    public int week(int deed) {
        if (homeless() || !within(deed, REST, LOOK) || now.week >= WEEK_LAST) {
            return NONE;
        }
        past.mark(now);
        if (!liveWeek(deed)) {
            return NONE;
        }
        past.commit();
        return now.week;
    }

    private boolean liveWeek(int deed) {
        int week = now.week;
        int down = now.down;
        if (!world.passWeek(now, deed)) {
            return false;
        }
        if (deed == WEAVE) {
            ledger.putBolt(now.woven - 1, week, down, now.took);
        }
        ledger.putWeek(now.logged, deed, now.money, now.down);
        now.logged++;
        return true;
    }

    public int cut() {
        past.mark(now);
        if (homeless() || !world.cutBolt(now)) {
            return NONE;
        }
        past.commit();
        return now.thirds;
    }

    public int sell(int buyer, int what) {
        past.mark(now);
        if (homeless() || !world.sellPiece(now, buyer, what)) {
            return NONE;
        }
        past.commit();
        return now.money;
    }

    public int pay(int debt) {
        past.mark(now);
        if (homeless() || !world.payDebt(now, debt)) {
            return NONE;
        }
        past.commit();
        return now.money;
    }

    public boolean iron(boolean is) {
        if (homeless() || now.iron == is) {
            return false;
        }
        past.mark(now);
        now.iron = is;
        past.commit();
        return true;
    }

    public int give(int n) {
        if (homeless() || !within(n, 1, GIFT_MOST) || now.money + n > MONEY_MOST) {
            return NONE;
        }
        past.mark(now);
        now.money += n;
        past.commit();
        return now.money;
    }

    public int lives(int n, long seed) {
        if (homeless() || !within(n, 1, LIVES_MOST) || now.week + n > WEEK_LAST) {
            return NONE;
        }
        drawn = seed;
        for (int i = 0; i < n; i++) {
            past.mark(now);
            liveDrawnWeek();
            if (now.bolts > 0) {
                world.sellPiece(now, draw(world.house.buyerCount), BOLT);
            }
            past.commit();
        }
        return now.week;
    }

    private void liveDrawnWeek() {
        if (draw(10) < laziness) {
            liveWeek(REST);
            return;
        }
        boolean wove = draw(2) == 0 && liveWeek(WEAVE);
        if (!wove) {
            liveWeek(PLOUGH);
        }
    }

    private int draw(int below) {
        if (below <= 0) {
            return 0;
        }
        drawn = drawn * DRAW_TIMES + DRAW_PLUS;
        return (int) ((drawn >>> 33) % below);
    }

    public int undo() {
        return past.takeBack(now);
    }

    public int image() {
        if (homeless()) {
            return NONE;
        }
        imageLife.copyFrom(now);
        imageLedger.copyFrom(ledger);
        imaged = true;
        return now.week;
    }

    public int back() {
        if (homeless() || !imaged) {
            return NONE;
        }
        now.copyFrom(imageLife);
        ledger.copyFrom(imageLedger);
        past.forget();
        return now.week;
    }

    // ---- what was written down ----

    public int log(int i, int what) {
        if (!within(i, 0, Math.min(now.logged, LOG_MOST) - 1) || !within(what, 0, 2)) {
            return NONE;
        }
        return ledger.logged(now.logged - 1 - i, what);
    }

    public int book(int i, int what) {
        if (!within(i, 0, now.woven - 1) || !within(what, 0, 2)) {
            return NONE;
        }
        return ledger.bound(i, what);
    }

    public int thin() {
        int thinnest = NONE;
        for (int i = 0; i < now.woven; i++) {
            if (thinnest == NONE || ledger.bound(i, 1) < ledger.bound(thinnest, 1)) {
                thinnest = i;
            }
        }
        return thinnest == NONE ? NONE : ledger.bound(thinnest, 0);
    }

    // ---- plans ----

    private boolean hasPlan(int plan) {
        return within(plan, 0, planCount - 1);
    }

    public int step(int plan, int i, int what) {
        if (!hasPlan(plan) || !within(i, 0, plans[plan].count - 1) || !within(what, 0, 2)) {
            return HIDDEN;
        }
        return plans[plan].part(i, what);
    }

    public int run(int plan, int what) {
        if (homeless() || !hasPlan(plan) || !within(what, 0, 1)) {
            return HIDDEN;
        }
        apart.copyFrom(now);
        int done = 0;
        while (done < plans[plan].count && world.takeStep(apart, plans[plan], done)) {
            done++;
        }
        if (what == 1) {
            return apart.money;
        }
        return done == plans[plan].count ? NONE : done;
    }

    public int perform(int plan) {
        if (homeless() || !hasPlan(plan)) {
            return NONE;
        }
        int done = 0;
        while (done < plans[plan].count && actStep(plans[plan], done)) {
            done++;
        }
        return done;
    }

    private boolean actStep(Plan plan, int i) {
        int first = plan.part(i, 1);
        switch (plan.part(i, 0)) {
            case Plan.WEEK_STEP:
                return week(first) != NONE;
            case Plan.CUT_STEP:
                return cut() != NONE;
            case Plan.SELL_STEP:
                return sell(first, plan.part(i, 2)) != NONE;
            default:
                return pay(first) != NONE;
        }
    }

    // ---- weeks to come ----

    public int weaving(int n, int v, int what) {
        if (homeless() || !within(n, 1, Search.ROW_MOST) || !within(v, 0, 60) || !within(what, 0, 1)) {
            return NONE;
        }
        search.findRow(now, n, v);
        return what == 0 ? search.bestRow : search.bestWorth;
    }

    public int stands() {
        if (homeless()) {
            return NONE;
        }
        apart.copyFrom(now);
        int bolts = 0;
        while (bolts < BOOK_MOST && world.passWeek(apart, WEAVE)) {
            bolts++;
        }
        return bolts;
    }

    public int soonest(int b) {
        if (homeless() || !within(b, 1, Search.BOLTS_MOST)) {
            return NONE;
        }
        return search.fewestWeeks(now, b);
    }

    public int bears(int d) {
        if (homeless() || !within(d, 0, DOWN_MOST)) {
            return NONE;
        }
        apart.copyFrom(now);
        for (int weeks = 0; weeks <= 60; weeks++) {
            if (apart.down >= d) {
                return weeks;
            }
            world.passWeek(apart, REST);
        }
        return NONE;
    }

    public int odds(int n, int chance) {
        if (homeless() || !within(n, 0, 30) || !within(chance, 0, 100)) {
            return NONE;
        }
        if (now.gone) {
            return 0;
        }
        long left = 1000000000L;
        for (int i = 0; i < n; i++) {
            left -= left * chance / 100;
        }
        return (int) left;
    }

    // ---- debts ----

    public int paying(int what) {
        if (homeless() || !within(what, 0, 1)) {
            return NONE;
        }
        int set = world.bestToPay(now);
        return what == 0 ? set : world.growthWithout(now, set);
    }

    public int moon() {
        if (homeless()) {
            return NONE;
        }
        for (int later = 0; later <= 60; later++) {
            int means = now.money + world.house.rules[FIELD] * later;
            if (world.owedBy(now, now.week + later) > means) {
                return now.week + later;
            }
        }
        return NONE;
    }

    public int owed(int what) {
        if (homeless()) {
            return HIDDEN;
        }
        switch (what) {
            case 0:
                return world.owedBy(now, DUE_LAST);
            case 1:
                return world.lateDebts(now);
            case 2:
                return world.nextDebt(now);
            default:
                return HIDDEN;
        }
    }

    // ---- buyers ----

    public int market(int what) {
        if (homeless() || !within(what, 0, 1)) {
            return NONE;
        }
        search.findSales(now, 0);
        return what == 0 ? search.bestSales : search.fewestCuts;
    }

    public int ring(int buyers) {
        if (homeless() || !within(buyers, 0, (1 << world.house.buyerCount) - 1)) {
            return NONE;
        }
        search.findSales(now, 0);
        int whole = search.bestSales;
        search.findSales(now, buyers);
        return whole - search.bestSales;
    }

    public int pieces(int what) {
        if (homeless() || !within(what, 0, 1)) {
            return HIDDEN;
        }
        int most = 0;
        for (int i = 1; i < world.house.buyerCount; i++) {
            if (world.house.gainByCut(i) > world.house.gainByCut(most)) {
                most = i;
            }
        }
        return what == 0 ? most : world.house.gainByCut(most);
    }

    public int best() {
        return homeless() ? NONE : world.bestBuyer(now);
    }

    public int weaves() {
        int buyer = best();
        if (buyer == NONE) {
            return NONE;
        }
        int growth = world.house.rules[GROWTH];
        int weeks = growth <= 0 ? 1 : (world.takes(now) + growth - 1) / growth;
        return world.house.buyers[3 * buyer + BOLT] > world.house.rules[FIELD] * weeks ? 1 : 0;
    }

    // ---- he looks, she shows ----

    public int game(int x, int y, int what) {
        if (homeless() || !within(x, 0, 1) || !within(y, 0, 1) || !within(what, 0, 1)) {
            return HIDDEN;
        }
        return what == 0 ? hisShare(x, y) : herShare(x, y);
    }

    private int hisShare(int x, int y) {
        if (y == 1) {
            return 3;
        }
        return x == 1 ? 6 : 2 - now.doubt / 3;
    }

    private int herShare(int x, int y) {
        if (x == 1) {
            return y;
        }
        return y == 1 ? 5 : 4 - now.doubt / 3;
    }

    public int rests(int i) {
        if (homeless() || i < NONE) {
            return NONE;
        }
        int found = 0;
        for (int pair = 0; pair < 4; pair++) {
            int x = pair / 2;
            int y = pair % 2;
            if (isRest(x, y)) {
                if (found == i) {
                    return 10 * x + y;
                }
                found++;
            }
        }
        return i == NONE ? found : NONE;
    }

    private boolean isRest(int x, int y) {
        return hisShare(x, y) >= hisShare(1 - x, y) && herShare(x, y) >= herShare(x, 1 - y);
    }

    // ---- goose or crane, and the sleeve ----

    public int test(int sort, boolean is) {
        if (homeless() || !within(sort, 0, 2)) {
            return NONE;
        }
        return proofs.addTest(sort, is);
    }

    public int crane() {
        return homeless() ? NONE : proofs.craneParts();
    }

    public int sign(int sort, int a, boolean is) {
        if (homeless() || !within(sort, 0, 2) || !within(a, 0, 99)) {
            return NONE;
        }
        return proofs.addSign(sort, a, is);
    }

    public int from(int i) {
        if (homeless() || i < NONE) {
            return NONE;
        }
        long fitting = proofs.fitting(ledger, now.woven);
        int found = 0;
        for (int bolt = 0; bolt < now.woven; bolt++) {
            if ((fitting >>> bolt & 1) != 0) {
                if (found == i) {
                    return bolt;
                }
                found++;
            }
        }
        return i == NONE ? found : NONE;
    }

    public int ask() {
        return homeless() ? NONE : proofs.bestQuestion(ledger, now.woven);
    }

    /** The bytes that were fed, and a place from which they are read as a text. */
    private static final class Tape {
        final int[] bytes = new int[TAPE_MOST];
        int length;
        int at;
        int wrong;

        static int bytesIn(int word) {
            int found = 0;
            for (int shift = 24; shift >= 0; shift -= 8) {
                if ((word >>> shift & 255) != 0) {
                    found++;
                }
            }
            return found;
        }

        void append(int word) {
            for (int shift = 24; shift >= 0; shift -= 8) {
                int sign = word >>> shift & 255;
                if (sign != 0 && length < bytes.length) {
                    bytes[length] = sign;
                    length++;
                }
            }
        }

        void rewind() {
            at = 0;
            wrong = NONE;
        }

        /** The first refusal counts: what is read behind it changes nothing. */
        void refuse() {
            if (wrong == NONE) {
                wrong = at;
            }
        }

        private int here() {
            return at < length && at < bytes.length ? bytes[at] : END_OF_TAPE;
        }

        /** The next sign, behind blanks. */
        int peek() {
            while (at < length && at < bytes.length && bytes[at] == BLANK) {
                at++;
            }
            return at < length && at < bytes.length ? bytes[at] : END_OF_TAPE;
        }

        /** Goes behind a sign that was peeked at; false: something was refused ahead of it. */
        boolean skip() {
            if (wrong != NONE) {
                return false;
            }
            at++;
            return true;
        }

        boolean accept(int sign) {
            if (wrong != NONE || peek() != sign) {
                return false;
            }
            at++;
            return true;
        }

        void demand(int sign) {
            if (wrong == NONE && peek() == sign) {
                at++;
            } else {
                refuse();
            }
        }

        void demandEnd() {
            if (peek() != END_OF_TAPE) {
                refuse();
            }
        }

        private static boolean isDigit(int sign) {
            return sign >= '0' && sign <= '9';
        }

        int number(int digits, int low, int high) {
            if (wrong != NONE || !isDigit(peek())) {
                refuse();
                return low;
            }
            int value = 0;
            for (int i = 0; i < digits && isDigit(here()); i++) {
                value = 10 * value + here() - '0';
                at++;
            }
            if (isDigit(here())) {
                refuse();
            } else if (value < low || value > high) {
                wrong = at - 1;
            }
            return value;
        }

        /** A digit of a step, which blanks may part from the next one. */
        int digit(int most) {
            int sign = peek();
            if (wrong != NONE || !isDigit(sign) || sign - '0' > most) {
                refuse();
                return 0;
            }
            at++;
            return sign - '0';
        }
    }

    /** What a text told: the rules, the debts and the buyers, in rows of numbers. */
    private static final class House {
        /** Of each item: its letter, the least, the most, and what it is without. */
        private static final int[] RULE_ITEMS = {
            'w', 0, 60, 30, 'm', 1, 60, 40, 'g', 0, 9, 3, 't', 1, 20, 8, 'p', 0, 9, 3, 'k', 0, 9, 2, 'l', 1, 20, 10};
        private static final int[] DEBT_ITEMS = {'n', 1, 60, 10, 'v', 1, 99, 20, 'i', 0, 9, 1};
        private static final int[] BUYER_ITEMS = {'p', 0, 60, 20, 'q', 0, 30, 8, 'n', 1, 9, 3};
        private static final int CLAUSES_MOST = 1 + DEBTS_MOST + BUYERS_MOST;

        boolean told;
        private boolean ruled;
        final int[] rules = new int[7];
        final int[] debts = new int[3 * DEBTS_MOST];
        final int[] buyers = new int[3 * BUYERS_MOST];
        int debtCount;
        int buyerCount;

        /** The fault of the tape as a house; this house is as told if there is none. */
        int readFrom(Tape tape) {
            tape.rewind();
            told = false;
            ruled = false;
            debtCount = 0;
            buyerCount = 0;
            fillUsual(rules, 0, RULE_ITEMS);
            boolean more = true;
            // one clause above the most, so that the letter of that one is refused
            for (int i = 0; i <= CLAUSES_MOST && more; i++) {
                readClause(tape);
                more = tape.accept(';');
            }
            tape.demandEnd();
            if (buyerCount == 0 || rules[DOWN] > rules[DOWN_LIMIT]) {
                tape.refuse();
            }
            return tape.wrong;
        }

        private void readClause(Tape tape) {
            // looked at ahead of all counts: in a full house, too, the fault is at the letter, not at blanks ahead of it
            int letter = tape.peek();
            if (letter == 's' && !ruled) {
                tape.skip();
                ruled = true;
                readItems(tape, rules, 0, RULE_ITEMS);
            } else if (letter == 'd' && debtCount < DEBTS_MOST) {
                tape.skip();
                readItems(tape, debts, 3 * debtCount, DEBT_ITEMS);
                debtCount++;
            } else if (letter == 'b' && buyerCount < BUYERS_MOST) {
                tape.skip();
                readItems(tape, buyers, 3 * buyerCount, BUYER_ITEMS);
                buyerCount++;
            } else {
                tape.refuse();
            }
        }

        private static void fillUsual(int[] row, int from, int[] items) {
            for (int i = 0; 4 * i + 3 < items.length && from + i < row.length; i++) {
                row[from + i] = items[4 * i + 3];
            }
        }

        private static void readItems(Tape tape, int[] row, int from, int[] items) {
            fillUsual(row, from, items);
            int seen = 0;
            for (int n = 0; n < items.length / 4; n++) {
                int item = itemOf(items, tape.peek());
                if (item == NONE || (seen >> item & 1) != 0 || from + item >= row.length) {
                    return;
                }
                seen |= 1 << item;
                tape.skip();
                row[from + item] = tape.number(2, items[4 * item + 1], items[4 * item + 2]);
            }
        }

        private static int itemOf(int[] items, int letter) {
            for (int i = 0; 4 * i + 3 < items.length; i++) {
                if (items[4 * i] == letter) {
                    return i;
                }
            }
            return NONE;
        }

        int gainByCut(int buyer) {
            return 3 * buyers[3 * buyer + THIRD] - buyers[3 * buyer + BOLT];
        }
    }

    /** Reads a law from the tape into code for Law, part by part. */
    private static final class LawReader {
        private static final int NESTED_MOST = 6;
        private static final int DIGITS_MOST = 4;
        private static final int NUMBER_MOST = 9999;

        private final Tape tape;
        // no byte of a law gives more than one number of code
        private final int[] code = new int[TAPE_MOST];
        private int size;

        LawReader(Tape tape) {
            this.tape = tape;
        }

        Law makeLaw() {
            return new Law(Arrays.copyOf(code, size));
        }

        private void emit(int part) {
            if (size < code.length) {
                code[size] = part;
                size++;
            }
        }

        int readLaw() {
            tape.rewind();
            size = 0;
            boolean more = true;
            for (int i = 0; i < TAPE_MOST && more; i++) {
                readClause();
                more = tape.accept(';');
            }
            tape.demandEnd();
            return tape.wrong;
        }

        private void readClause() {
            tape.demand('y');
            tape.demand(':');
            int sign = tape.peek();
            boolean conditional = sign == '!' || sign == '(';
            boolean begun = false;
            if (!conditional) {
                readSum(0);
                conditional = comparison(tape.peek()) != NONE;
                begun = true;
            }
            if (conditional) {
                readCondition(0, begun);
                tape.demand('?');
                emit(Law.CHOOSE);
                readSum(0);
            }
            emit(Law.ANSWER);
        }

        /** Begun: the first sum of its first unit was read already. */
        private void readCondition(int depth, boolean begun) {
            readTruth(depth, begun);
            for (int i = 0; i < TAPE_MOST && tape.accept('|'); i++) {
                readTruth(depth, false);
                emit(Law.OR);
            }
        }

        private void readTruth(int depth, boolean begun) {
            readUnit(depth, begun);
            for (int i = 0; i < TAPE_MOST && tape.accept('&'); i++) {
                readUnit(depth, false);
                emit(Law.AND);
            }
        }

        private void readUnit(int depth, boolean begun) {
            int sign = tape.peek();
            if (!begun && sign == '!') {
                if (opens(depth)) {
                    readUnit(depth + 1, false);
                    emit(Law.NOT);
                }
                return;
            }
            if (!begun && sign == '(') {
                if (opens(depth)) {
                    readCondition(depth + 1, false);
                    tape.demand(')');
                }
                return;
            }
            if (!begun) {
                readSum(depth);
            }
            int part = comparison(tape.peek());
            if (part == NONE) {
                tape.refuse();
            } else if (tape.skip()) {
                readSum(depth);
                emit(part);
            }
        }

        private static int comparison(int sign) {
            switch (sign) {
                case '=':
                    return Law.SAME;
                case '<':
                    return Law.LESS;
                case '>':
                    return Law.GREATER;
                default:
                    return NONE;
            }
        }

        private boolean opens(int depth) {
            if (depth >= NESTED_MOST) {
                tape.refuse();
            }
            return tape.skip();
        }

        private void readSum(int depth) {
            readTerm(depth);
            for (int i = 0; i < TAPE_MOST; i++) {
                boolean plus = tape.accept('+');
                if (!plus && !tape.accept('-')) {
                    return;
                }
                readTerm(depth);
                emit(plus ? Law.PLUS : Law.MINUS);
            }
        }

        private void readTerm(int depth) {
            readAtom(depth);
            for (int i = 0; i < TAPE_MOST; i++) {
                boolean times = tape.accept('*');
                if (!times && !tape.accept('/')) {
                    return;
                }
                readAtom(depth);
                emit(times ? Law.TIMES : Law.BY);
            }
        }

        private void readAtom(int depth) {
            int sign = tape.peek();
            int letter = Law.letterOf(sign);
            if (letter != NONE) {
                tape.skip();
                emit(Law.FIRST_LETTER - letter);
            } else if (sign == '[') {
                if (opens(depth)) {
                    readSum(depth + 1);
                    tape.demand(']');
                }
            } else {
                emit(tape.number(DIGITS_MOST, 0, NUMBER_MOST));
            }
        }
    }

    /** A law as code for a stack: numbers are themselves, letters and signs are below 0. */
    private static final class Law {
        private static final int[] LETTERS = {'w', 't', 'k', 'n', 'y', 'm'};
        static final int LETTER_COUNT = 6;
        static final int STACK_MOST = 64;
        static final int FIRST_LETTER = -1;
        static final int LAST_LETTER = -6;
        static final int PLUS = -10;
        static final int MINUS = -11;
        static final int TIMES = -12;
        static final int BY = -13;
        static final int SAME = -14;
        static final int LESS = -15;
        static final int GREATER = -16;
        static final int AND = -17;
        static final int OR = -18;
        static final int NOT = -19;
        static final int CHOOSE = -20;
        static final int ANSWER = -21;
        private static final long NUMBER_LIMIT = 1000000L;

        private final int[] code;

        Law(int[] code) {
            this.code = code;
        }

        static int letterOf(int sign) {
            for (int i = 0; i < LETTERS.length; i++) {
                if (LETTERS[i] == sign) {
                    return i;
                }
            }
            return NONE;
        }

        /** The worth with these letters; the stack has far more places than six levels need. */
        int worth(int[] letters, int[] stack) {
            int top = 0;
            boolean passing = false;
            for (int i = 0; i < code.length; i++) {
                int part = code[i];
                if (passing) {
                    passing = part != ANSWER;
                } else if (part == ANSWER) {
                    return stack[0];
                } else if (part == CHOOSE) {
                    passing = stack[0] == 0;
                    top = 0;
                } else if (part >= 0 && top < stack.length) {
                    stack[top] = part;
                    top++;
                } else if (part >= LAST_LETTER && top < stack.length) {
                    stack[top] = letters[FIRST_LETTER - part];
                    top++;
                } else if (part == NOT && top >= 1) {
                    stack[top - 1] = 1 - stack[top - 1];
                } else if (top >= 2) {
                    top--;
                    stack[top - 1] = joined(part, stack[top - 1], stack[top]);
                }
            }
            return 0;
        }

        private static int joined(int part, long left, long right) {
            long value = 0;
            switch (part) {
                case PLUS:
                    value = left + right;
                    break;
                case MINUS:
                    value = left - right;
                    break;
                case TIMES:
                    value = left * right;
                    break;
                case BY:
                    value = right == 0 ? 0 : left / right;
                    break;
                case SAME:
                    return left == right ? 1 : 0;
                case LESS:
                    return left < right ? 1 : 0;
                case GREATER:
                    return left > right ? 1 : 0;
                case AND:
                    return (int) (left & right);
                default:
                    return (int) (left | right);
            }
            return (int) (value > NUMBER_LIMIT ? NUMBER_LIMIT : value < -NUMBER_LIMIT ? -NUMBER_LIMIT : value);
        }
    }

    /** Steps, three numbers each: what it is, and its digits (NONE where it has none). */
    private static final class Plan {
        static final int WEEK_STEP = 0;
        static final int CUT_STEP = 1;
        static final int SELL_STEP = 2;
        static final int PAY_STEP = 3;
        private static final int STEPS_MOST = 16;

        private final int[] parts = new int[3 * STEPS_MOST];
        int count;

        /** The fault of the tape as a plan; its steps go to the plan given, if one is. */
        static int readFrom(Tape tape, Plan plan) {
            tape.rewind();
            boolean more = true;
            int steps = 0;
            for (int i = 0; i < STEPS_MOST && more; i++) {
                readStep(tape, plan, i);
                steps++;
                // the ; ahead of a 17th step is left for demandEnd to refuse
                more = steps < STEPS_MOST && tape.accept(';');
            }
            tape.demandEnd();
            if (plan != null) {
                plan.count = steps;
            }
            return tape.wrong;
        }

        private static void readStep(Tape tape, Plan plan, int i) {
            int what = PAY_STEP;
            int first = NONE;
            int second = NONE;
            if (tape.accept('w')) {
                what = WEEK_STEP;
                first = tape.digit(LOOK);
            } else if (tape.accept('c')) {
                what = CUT_STEP;
            } else if (tape.accept('s')) {
                what = SELL_STEP;
                first = tape.digit(9);
                second = tape.digit(THIRD);
            } else {
                tape.demand('p');
                first = tape.digit(9);
            }
            if (plan != null) {
                plan.put(i, what, first, second);
            }
        }

        private void put(int i, int what, int first, int second) {
            if (i < 0 || i >= STEPS_MOST) {
                return;
            }
            parts[3 * i] = what;
            parts[3 * i + 1] = first;
            parts[3 * i + 2] = second;
        }

        int part(int i, int what) {
            return parts[3 * i + what];
        }
    }

    /** How it stands in one week: all that acts change, but for what log and book hold. */
    private static final class Life {
        int down;
        boolean gone;
        int doubt;
        boolean iron;
        int money;
        int bolts;
        int thirds;
        int paid;
        final int[] sold = new int[BUYERS_MOST];
        int week;
        int woven;
        int logged;
        int took;

        void begin(House house) {
            down = house.rules[DOWN];
            gone = false;
            doubt = house.rules[DOUBT];
            iron = false;
            money = 0;
            bolts = 0;
            thirds = 0;
            paid = 0;
            Arrays.fill(sold, 0);
            week = 0;
            woven = 0;
            logged = 0;
            took = 0;
        }

        void copyFrom(Life other) {
            down = other.down;
            gone = other.gone;
            doubt = other.doubt;
            iron = other.iron;
            money = other.money;
            bolts = other.bolts;
            thirds = other.thirds;
            paid = other.paid;
            System.arraycopy(other.sold, 0, sold, 0, BUYERS_MOST);
            week = other.week;
            woven = other.woven;
            logged = other.logged;
            took = other.took;
        }

        void addBolt(int takes) {
            took = takes;
            down -= takes;
            bolts++;
            woven++;
            if (!iron) {
                doubt++;
            }
        }

        boolean hasPaid(int debt) {
            return (paid >> debt & 1) != 0;
        }
    }

    /** The house and the law that holds: what a life may do under them, and what it owes. */
    private static final class World {
        House house = new House();
        Law law;
        private final int[] letters = new int[Law.LETTER_COUNT];
        private final int[] stack = new int[Law.STACK_MOST];

        int takes(Life life) {
            if (law == null) {
                return house.rules[TAKES];
            }
            letters[0] = life.down;
            letters[1] = house.rules[TAKES];
            letters[2] = life.doubt;
            letters[3] = life.woven;
            letters[4] = life.week;
            letters[5] = life.money;
            return Math.max(0, Math.min(DOWN_MOST, law.worth(letters, stack)));
        }

        /** False, with the life unchanged: a week with this deed can't be. */
        boolean passWeek(Life life, int deed) {
            int takes = deed == WEAVE ? takes(life) : 0;
            if (!canBe(life, deed, takes)) {
                return false;
            }
            if (deed == WEAVE) {
                life.addBolt(takes);
            } else if (deed == PLOUGH) {
                life.money = Math.min(MONEY_MOST, life.money + house.rules[FIELD]);
            } else if (deed == REST) {
                life.doubt = Math.max(0, life.doubt - 1);
            }
            if (!life.gone) {
                if (deed == LOOK || life.doubt >= house.rules[LOOKS]) {
                    life.gone = true;
                } else {
                    life.down = Math.min(house.rules[DOWN_LIMIT], life.down + house.rules[GROWTH]);
                }
            }
            life.week++;
            return true;
        }

        private static boolean canBe(Life life, int deed, int takes) {
            if (deed == WEAVE) {
                return !life.gone && life.woven < BOOK_MOST && life.down > takes;
            }
            return deed != LOOK || !life.gone;
        }

        boolean cutBolt(Life life) {
            if (life.bolts <= 0) {
                return false;
            }
            life.bolts--;
            life.thirds += 3;
            return true;
        }

        int wants(Life life, int buyer) {
            return house.buyers[3 * buyer + WANTS] - life.sold[buyer];
        }

        boolean sellPiece(Life life, int buyer, int what) {
            if (!within(buyer, 0, house.buyerCount - 1) || !within(what, BOLT, THIRD) || wants(life, buyer) <= 0) {
                return false;
            }
            int have = what == BOLT ? life.bolts : life.thirds;
            int money = life.money + house.buyers[3 * buyer + what];
            if (have <= 0 || money > MONEY_MOST) {
                return false;
            }
            if (what == BOLT) {
                life.bolts--;
            } else {
                life.thirds--;
            }
            life.sold[buyer]++;
            life.money = money;
            return true;
        }

        boolean payDebt(Life life, int debt) {
            if (!within(debt, 0, house.debtCount - 1) || life.hasPaid(debt) || owes(debt, life.week) > life.money) {
                return false;
            }
            life.money -= owes(debt, life.week);
            life.paid |= 1 << debt;
            return true;
        }

        boolean takeStep(Life life, Plan plan, int i) {
            int first = plan.part(i, 1);
            switch (plan.part(i, 0)) {
                case Plan.WEEK_STEP:
                    return life.week < WEEK_LAST && passWeek(life, first);
                case Plan.CUT_STEP:
                    return cutBolt(life);
                case Plan.SELL_STEP:
                    return sellPiece(life, first, plan.part(i, 2));
                default:
                    return payDebt(life, first);
            }
        }

        int owes(int debt, int week) {
            int late = Math.max(0, week - house.debts[3 * debt + DUE]);
            return house.debts[3 * debt + SUM] + late * house.debts[3 * debt + MORE];
        }

        /** The debts not paid that are due by a week, as they are now. */
        int owedBy(Life life, int week) {
            int all = 0;
            for (int i = 0; i < house.debtCount; i++) {
                if (!life.hasPaid(i) && house.debts[3 * i + DUE] <= week) {
                    all += owes(i, life.week);
                }
            }
            return all;
        }

        int lateDebts(Life life) {
            int late = 0;
            for (int i = 0; i < house.debtCount; i++) {
                if (!life.hasPaid(i) && life.week > house.debts[3 * i + DUE]) {
                    late |= 1 << i;
                }
            }
            return late;
        }

        int nextDebt(Life life) {
            int next = NONE;
            for (int i = 0; i < house.debtCount; i++) {
                if (!life.hasPaid(i) && (next == NONE || house.debts[3 * i + DUE] < house.debts[3 * next + DUE])) {
                    next = i;
                }
            }
            return next;
        }

        int bestToPay(Life life) {
            int best = 0;
            for (int set = 1; set < 1 << house.debtCount; set++) {
                if ((set & life.paid) == 0 && priceOf(life, set) <= life.money && paysBetter(life, set, best)) {
                    best = set;
                }
            }
            return best;
        }

        private boolean paysBetter(Life life, int set, int other) {
            int growth = growthWithout(life, set);
            int otherGrowth = growthWithout(life, other);
            if (growth != otherGrowth) {
                return growth < otherGrowth;
            }
            return priceOf(life, set) < priceOf(life, other);
        }

        private int priceOf(Life life, int set) {
            int price = 0;
            for (int i = 0; i < house.debtCount; i++) {
                if ((set >> i & 1) != 0) {
                    price += owes(i, life.week);
                }
            }
            return price;
        }

        /** By how much the debts that stay when a set is paid grow in the next week. */
        int growthWithout(Life life, int set) {
            int growth = 0;
            for (int i = 0; i < house.debtCount; i++) {
                if (!life.hasPaid(i) && (set >> i & 1) == 0 && house.debts[3 * i + DUE] <= life.week) {
                    growth += house.debts[3 * i + MORE];
                }
            }
            return growth;
        }

        int bestBuyer(Life life) {
            int best = NONE;
            for (int i = 0; i < house.buyerCount; i++) {
                boolean pays = best == NONE || house.buyers[3 * i + BOLT] > house.buyers[3 * best + BOLT];
                if (pays && wants(life, i) > 0) {
                    best = i;
                }
            }
            return best;
        }
    }

    /** The log and the book. How long they are is kept by the life, so an act undone shortens them. */
    private static final class Ledger {
        // acts undone bring back entries older than the latest sixty: those are kept too
        private static final int LOG_KEPT = LOG_MOST + ACTS_MOST;

        private final int[] log = new int[3 * LOG_KEPT];
        private final int[] book = new int[3 * BOOK_MOST];

        void putWeek(int number, int deed, int money, int down) {
            int at = 3 * Math.floorMod(number, LOG_KEPT);
            log[at] = deed;
            log[at + 1] = money;
            log[at + 2] = down;
        }

        void putBolt(int bolt, int week, int down, int took) {
            if (bolt < 0 || bolt >= BOOK_MOST) {
                return;
            }
            book[3 * bolt] = week;
            book[3 * bolt + 1] = down;
            book[3 * bolt + 2] = took;
        }

        int logged(int number, int what) {
            return log[3 * Math.floorMod(number, LOG_KEPT) + what];
        }

        int bound(int bolt, int what) {
            return book[3 * bolt + what];
        }

        void copyFrom(Ledger other) {
            System.arraycopy(other.log, 0, log, 0, log.length);
            System.arraycopy(other.book, 0, book, 0, book.length);
        }
    }

    /** Lives as they were ahead of the latest acts. */
    private static final class Past {
        // one place more than acts: an act that is refused must not cost the oldest one
        private static final int PLACES = ACTS_MOST + 1;

        private final Life[] places = new Life[PLACES];
        private int next;
        int acts;

        Past() {
            for (int i = 0; i < PLACES; i++) {
                places[i] = new Life();
            }
        }

        void forget() {
            acts = 0;
        }

        void mark(Life now) {
            places[next].copyFrom(now);
        }

        void commit() {
            next = (next + 1) % PLACES;
            acts = Math.min(ACTS_MOST, acts + 1);
        }

        int takeBack(Life now) {
            if (acts <= 0) {
                return NONE;
            }
            next = (next + PLACES - 1) % PLACES;
            now.copyFrom(places[next]);
            acts--;
            return acts;
        }
    }

    /** Searches through weeks and sales that might be, apart from the life that is. */
    private static final class Search {
        static final int ROW_MOST = 8;
        static final int BOLTS_MOST = 9;
        private static final int WEEKS_MOST = 30;
        // who is not gone has a doubt below 20
        private static final int DOUBTS = 21;
        // all that five buyers want, and none
        private static final int SIDE = 46;

        private final World world;
        private final Life[] lives = new Life[ROW_MOST + 1];
        private int weeks;
        private int price;
        int bestRow;
        int bestWorth;
        private long[] reached = new long[BOLTS_MOST * DOUBTS];
        private long[] coming = new long[BOLTS_MOST * DOUBTS];
        private final int[] sales = new int[SIDE * SIDE];
        int bestSales;
        int fewestCuts;

        Search(World world) {
            this.world = world;
            for (int i = 0; i < lives.length; i++) {
                lives[i] = new Life();
            }
        }

        void findRow(Life now, int weeks, int price) {
            this.weeks = Math.min(weeks, ROW_MOST);
            this.price = price;
            bestRow = NONE;
            bestWorth = NONE;
            lives[0].copyFrom(now);
            tryRows(0, 0);
        }

        /** Rows are tried rising, so the first of the best ones is the least. */
        private void tryRows(int depth, int row) {
            Life life = lives[depth];
            int worth = life.money + price * life.bolts;
            int gainMost = Math.max(price, world.house.rules[FIELD]) * (weeks - depth);
            if (worth + gainMost <= bestWorth) {
                return;
            }
            if (depth >= weeks) {
                bestWorth = worth;
                bestRow = row;
                return;
            }
            for (int deed = REST; deed <= PLOUGH; deed++) {
                lives[depth + 1].copyFrom(life);
                if (world.passWeek(lives[depth + 1], deed)) {
                    tryRows(depth + 1, 10 * row + deed);
                }
            }
        }

        /** Of each count of bolts and each doubt that can be, the bits of DOWN that can be, week by week. */
        int fewestWeeks(Life now, int bolts) {
            if (now.gone || now.doubt >= DOUBTS) {
                return NONE;
            }
            Arrays.fill(reached, 0L);
            reached[now.doubt] = 1L << now.down;
            for (int week = 1; week <= WEEKS_MOST; week++) {
                Arrays.fill(coming, 0L);
                if (spread(now, bolts, week)) {
                    return week;
                }
                long[] spent = reached;
                reached = coming;
                coming = spent;
            }
            return NONE;
        }

        /** One week more from all that was reached; true: so many bolts are woven. */
        private boolean spread(Life now, int bolts, int week) {
            for (int place = 0; place < bolts * DOUBTS && place < reached.length; place++) {
                long downs = reached[place];
                for (int down = DOWN_MOST; down >= 0 && downs != 0; down--) {
                    if ((downs >>> down & 1) != 0) {
                        if (spreadFrom(now, place, down, bolts, week)) {
                            return true;
                        }
                        // without a law more down is never worse, so the highest is enough
                        downs = world.law == null ? 0 : downs & ~(1L << down);
                    }
                }
            }
            return false;
        }

        private boolean spreadFrom(Life now, int place, int down, int bolts, int week) {
            int woven = place / DOUBTS;
            setAt(now, place, down, week);
            if (world.passWeek(lives[1], REST)) {
                reach(woven);
            }
            setAt(now, place, down, week);
            if (!world.passWeek(lives[1], WEAVE) || lives[1].gone) {
                return false;
            }
            if (woven + 1 >= bolts) {
                return true;
            }
            reach(woven + 1);
            return false;
        }

        private void setAt(Life now, int place, int down, int week) {
            Life life = lives[1];
            life.copyFrom(now);
            life.down = down;
            life.doubt = place % DOUBTS;
            life.woven = now.woven + place / DOUBTS;
            life.week = now.week + week - 1;
        }

        private void reach(int woven) {
            Life life = lives[1];
            int place = woven * DOUBTS + life.doubt;
            if (!life.gone && life.doubt < DOUBTS && place < coming.length) {
                coming[place] |= 1L << life.down;
            }
        }

        /** The most that sales bring without a set of buyers, and the fewest cuts for that. */
        void findSales(Life now, int without) {
            Arrays.fill(sales, NONE);
            sales[0] = 0;
            int pieces = 0;
            for (int buyer = 0; buyer < world.house.buyerCount; buyer++) {
                int wants = (without >> buyer & 1) != 0 ? 0 : world.wants(now, buyer);
                for (int i = 0; i < wants && pieces < SIDE - 1; i++) {
                    pieces++;
                    addPiece(now, buyer, pieces);
                }
            }
            chooseSales(now);
        }

        /** One piece more for a buyer: a bolt, a third, or nothing; sales[bolts * SIDE + thirds]. */
        private void addPiece(Life now, int buyer, int pieces) {
            int boltPrice = world.house.buyers[3 * buyer + BOLT];
            int thirdPrice = world.house.buyers[3 * buyer + THIRD];
            int thirdsMost = now.thirds + 3 * now.bolts;
            for (int bolts = Math.min(pieces, now.bolts); bolts >= 0; bolts--) {
                for (int thirds = Math.min(pieces - bolts, thirdsMost); thirds >= 0; thirds--) {
                    int at = bolts * SIDE + thirds;
                    int most = sales[at];
                    if (bolts > 0 && sales[at - SIDE] != NONE) {
                        most = Math.max(most, sales[at - SIDE] + boltPrice);
                    }
                    if (thirds > 0 && sales[at - 1] != NONE) {
                        most = Math.max(most, sales[at - 1] + thirdPrice);
                    }
                    sales[at] = most;
                }
            }
        }

        private void chooseSales(Life now) {
            bestSales = 0;
            fewestCuts = 0;
            for (int bolts = 0; bolts < SIDE && bolts <= now.bolts; bolts++) {
                for (int thirds = 0; thirds < SIDE; thirds++) {
                    int cuts = Math.max(0, (thirds - now.thirds + 2) / 3);
                    int money = sales[bolts * SIDE + thirds];
                    boolean better = money > bestSales || money == bestSales && cuts < fewestCuts;
                    if (better && bolts + cuts <= now.bolts) {
                        bestSales = money;
                        fewestCuts = cuts;
                    }
                }
            }
        }
    }

    /** Tests of a cloth, and signs of the bolt of which the sleeve was. */
    private static final class Proofs {
        private static final int TESTS_MOST = 12;
        private static final int SIGNS_MOST = 10;
        private static final int[] CRANE_TENTHS = {9, 8, 6};
        private static final int[] GOOSE_TENTHS = {2, 3, 5};

        int testCount;
        private long craneLikely = 1;
        private long gooseLikely = 1;
        int signCount;
        // of each sign: the sort, the number, and whether it is that or more (1, 0)
        private final int[] signs = new int[3 * SIGNS_MOST];

        void forget() {
            testCount = 0;
            craneLikely = 1;
            gooseLikely = 1;
            signCount = 0;
        }

        int addTest(int sort, boolean is) {
            if (testCount >= TESTS_MOST || sort < 0 || sort >= CRANE_TENTHS.length) {
                return NONE;
            }
            craneLikely *= is ? CRANE_TENTHS[sort] : 10 - CRANE_TENTHS[sort];
            gooseLikely *= is ? GOOSE_TENTHS[sort] : 10 - GOOSE_TENTHS[sort];
            testCount++;
            return testCount;
        }

        int craneParts() {
            long all = craneLikely + gooseLikely;
            return all <= 0 ? NONE : (int) (craneLikely * 1000000L / all);
        }

        int addSign(int sort, int least, boolean is) {
            if (signCount >= SIGNS_MOST) {
                return NONE;
            }
            signs[3 * signCount] = sort;
            signs[3 * signCount + 1] = least;
            signs[3 * signCount + 2] = is ? 1 : 0;
            signCount++;
            return signCount;
        }

        private boolean fits(Ledger ledger, int bolt) {
            for (int i = 0; i < signCount; i++) {
                boolean isSo = ledger.bound(bolt, signs[3 * i]) >= signs[3 * i + 1];
                if (isSo != (signs[3 * i + 2] == 1)) {
                    return false;
                }
            }
            return true;
        }

        /** The bolts by which all signs are so, as bits (sixty at most). */
        long fitting(Ledger ledger, int bolts) {
            long fitting = 0;
            for (int bolt = 0; bolt < bolts; bolt++) {
                if (fits(ledger, bolt)) {
                    fitting |= 1L << bolt;
                }
            }
            return fitting;
        }

        int bestQuestion(Ledger ledger, int bolts) {
            long fitting = fitting(ledger, bolts);
            int best = NONE;
            int leastApart = BOOK_MOST + 1;
            for (int question = 0; question < 300 && fitting != 0; question++) {
                int apart = 0;
                for (int bolt = 0; bolt < bolts; bolt++) {
                    if ((fitting >>> bolt & 1) != 0) {
                        apart += ledger.bound(bolt, question / 100) >= question % 100 ? 1 : -1;
                    }
                }
                if (Math.abs(apart) < leastApart) {
                    leastApart = Math.abs(apart);
                    best = question;
                }
            }
            return best;
        }
    }
}
