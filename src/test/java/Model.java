import java.math.BigInteger;
import java.nio.charset.StandardCharsets;
import java.util.ArrayList;
import java.util.HashMap;
import java.util.HashSet;
import java.util.List;
import java.util.Map;
import java.util.NoSuchElementException;
import java.util.Set;
import java.util.TreeSet;

/** The document once more, in the slowest and plainest way: whole copies, full searches. */
final class Model {
    static final int NONE = -1;
    static final int HIDDEN = -1000000;

    static final class State implements Cloneable {
        int down, doubt, money, bolts, thirds, week;
        boolean gone, iron;
        Set<Integer> paid = new TreeSet<>();
        int[] sold = new int[5];
        List<int[]> log = new ArrayList<>();
        List<int[]> book = new ArrayList<>();

        State copy() {
            State c = new State();
            c.down = down;
            c.doubt = doubt;
            c.money = money;
            c.bolts = bolts;
            c.thirds = thirds;
            c.week = week;
            c.gone = gone;
            c.iron = iron;
            c.paid.addAll(paid);
            c.sold = sold.clone();
            c.log.addAll(log);
            c.book.addAll(book);
            return c;
        }
    }

    private String tape = "";
    private int[] rules;
    private List<int[]> debts = new ArrayList<>();
    private List<int[]> buyers = new ArrayList<>();
    private final List<String> laws = new ArrayList<>();
    private final List<List<int[]>> plans = new ArrayList<>();
    private int holds = NONE;
    private int lazy = 2;
    private State now = new State();
    private State image;
    private List<State> acts = new ArrayList<>();
    private List<boolean[]> craneTests = new ArrayList<>();
    private List<Integer> testSorts = new ArrayList<>();
    private List<int[]> signs = new ArrayList<>();

    int feed(int... words) {
        StringBuilder more = new StringBuilder();
        for (int word : words) {
            for (byte b : new byte[] {(byte) (word >> 24), (byte) (word >> 16), (byte) (word >> 8), (byte) word}) {
                if (b != 0) {
                    more.append(new String(new byte[] {b}, StandardCharsets.ISO_8859_1));
                }
            }
        }
        if (tape.length() + more.length() > 240) {
            return NONE;
        }
        tape += more;
        return tape.length();
    }

    boolean end(int n) {
        if (n < 0 || n > tape.length()) {
            return false;
        }
        tape = tape.substring(0, n);
        return true;
    }

    int fault(int sort) {
        int[] out = new int[1];
        if (sort == 0) {
            ModelTexts.house(tape, out);
        } else if (sort == 1) {
            out[0] = ModelTexts.lawFault(tape);
        } else if (sort == 2) {
            ModelTexts.plan(tape, out);
        } else {
            out[0] = -2;
        }
        return out[0];
    }

    int text(int sort) {
        if (sort < 0 || sort > 2 || fault(sort) != NONE) {
            return NONE;
        }
        if (sort == 1 && laws.size() == 4 || sort == 2 && plans.size() == 4) {
            return NONE;
        }
        String told = tape;
        tape = "";
        if (sort == 1) {
            laws.add(told);
            return laws.size() - 1;
        }
        if (sort == 2) {
            plans.add(ModelTexts.plan(told, new int[1]));
            return plans.size() - 1;
        }
        rules = ModelTexts.USUAL[0].clone();
        debts = new ArrayList<>();
        buyers = new ArrayList<>();
        for (int[] clause : ModelTexts.house(told, new int[1])) {
            int[] row = java.util.Arrays.copyOfRange(clause, 1, clause.length);
            if (clause[0] == 0) {
                rules = row;
            } else {
                (clause[0] == 1 ? debts : buyers).add(row);
            }
        }
        now = new State();
        now.down = rules[0];
        now.doubt = rules[5];
        image = null;
        acts = new ArrayList<>();
        craneTests = new ArrayList<>();
        testSorts = new ArrayList<>();
        signs = new ArrayList<>();
        return buyers.size();
    }

    private int takes(State s) {
        if (holds == NONE) {
            return rules[3];
        }
        int worth = ModelTexts.worth(laws.get(holds),
            new int[] {s.down, rules[3], s.doubt, s.book.size(), s.week, s.money});
        return worth < 0 ? 0 : worth > 60 ? 60 : worth;
    }

    private boolean canWeave(State s) {
        return !s.gone && s.book.size() < 60 && s.down > takes(s);
    }

    /** The state a week later, null if it can't be. */
    private State week(State old, int deed) {
        if (deed == 1 && !canWeave(old) || deed == 3 && old.gone) {
            return null;
        }
        State s = old.copy();
        switch (deed) {
            case 0:
                s.doubt = s.doubt == 0 ? 0 : s.doubt - 1;
                break;
            case 1:
                s.book.add(new int[] {old.week, old.down, takes(old)});
                s.down = old.down - takes(old);
                s.bolts++;
                s.doubt += s.iron ? 0 : 1;
                break;
            case 2:
                s.money += rules[4];
                if (s.money > 9999) {
                    s.money = 9999;
                }
                break;
            default:
                break;
        }
        if (!s.gone) {
            s.gone = deed == 3 || s.doubt >= rules[6];
            if (!s.gone) {
                s.down += rules[2];
                if (s.down > rules[1]) {
                    s.down = rules[1];
                }
            }
        }
        s.week++;
        s.log.add(new int[] {deed, s.money, s.down});
        return s;
    }

    private State cut(State old) {
        if (old.bolts == 0) {
            return null;
        }
        State s = old.copy();
        s.bolts--;
        s.thirds += 3;
        return s;
    }

    private State sell(State old, int buyer, int what) {
        if (buyer < 0 || buyer >= buyers.size() || what < 0 || what > 1) {
            return null;
        }
        if ((what == 0 ? old.bolts : old.thirds) == 0 || old.sold[buyer] == buyers.get(buyer)[2]) {
            return null;
        }
        State s = old.copy();
        s.sold[buyer]++;
        s.money += buyers.get(buyer)[what];
        if (what == 0) {
            s.bolts--;
        } else {
            s.thirds--;
        }
        return s.money > 9999 ? null : s;
    }

    private int owes(int debt, int week) {
        int[] d = debts.get(debt);
        int amount = d[1];
        for (int w = d[0]; w < week; w++) {
            amount += d[2];
        }
        return amount;
    }

    private State pay(State old, int debt) {
        if (debt < 0 || debt >= debts.size() || old.paid.contains(debt) || old.money < owes(debt, old.week)) {
            return null;
        }
        State s = old.copy();
        s.money -= owes(debt, s.week);
        s.paid.add(debt);
        return s;
    }

    private boolean act(State next) {
        if (next == null) {
            return false;
        }
        acts.add(now);
        if (acts.size() > 40) {
            acts.remove(0);
        }
        now = next;
        return true;
    }

    int rule(int what) {
        if (rules == null || what < 0 || what > 6) {
            return NONE;
        }
        return what == 0 ? now.down : what == 3 ? takes(now) : what == 5 ? now.doubt : rules[what];
    }

    int debt(int debt, int what) {
        if (debt < 0 || debt >= debts.size() || what < 0 || what > 4) {
            return NONE;
        }
        return what == 4 ? now.paid.contains(debt) ? 1 : 0 : what == 3 ? owes(debt, now.week) : debts.get(debt)[what];
    }

    int buyer(int buyer, int what) {
        if (buyer < 0 || buyer >= buyers.size() || what < 0 || what > 3) {
            throw new NoSuchElementException();
        }
        int[] b = buyers.get(buyer);
        return what == 2 ? b[2] - now.sold[buyer] : what == 3 ? now.sold[buyer] : b[what];
    }

    boolean law(int law) {
        if (law < -1 || law >= laws.size()) {
            return false;
        }
        holds = law;
        return true;
    }

    boolean lazy(int v) {
        if (v < 0 || v > 9 || v == lazy) {
            return false;
        }
        lazy = v;
        return true;
    }

    int week(int deed) {
        if (rules == null || deed < 0 || deed > 3 || now.week == 999 || !act(week(now, deed))) {
            return NONE;
        }
        return now.week;
    }

    int cut() {
        return rules != null && act(cut(now)) ? now.thirds : NONE;
    }

    int sell(int buyer, int what) {
        return rules != null && act(sell(now, buyer, what)) ? now.money : NONE;
    }

    int pay(int debt) {
        return rules != null && act(pay(now, debt)) ? now.money : NONE;
    }

    boolean iron(boolean is) {
        if (rules == null || now.iron == is) {
            return false;
        }
        State s = now.copy();
        s.iron = is;
        return act(s);
    }

    int give(int n) {
        if (rules == null || n < 1 || n > 99 || now.money + n > 9999) {
            return NONE;
        }
        State s = now.copy();
        s.money += n;
        act(s);
        return s.money;
    }

    private BigInteger x;

    private int draw(int j) {
        BigInteger round = BigInteger.ONE.shiftLeft(64);
        x = x.multiply(new BigInteger("6364136223846793005")).add(new BigInteger("1442695040888963407")).mod(round);
        return x.shiftRight(33).mod(BigInteger.valueOf(j)).intValue();
    }

    int lives(int n, long seed) {
        if (rules == null || n < 1 || n > 60 || now.week + n > 999) {
            return NONE;
        }
        x = BigInteger.valueOf(seed).mod(BigInteger.ONE.shiftLeft(64));
        for (int i = 0; i < n; i++) {
            int deed;
            if (draw(10) < lazy) {
                deed = 0;
            } else if (draw(2) == 0) {
                deed = canWeave(now) ? 1 : 2;
            } else {
                deed = 2;
            }
            State s = week(now, deed);
            if (s.bolts > 0) {
                State sold = sell(s, draw(buyers.size()), 0);
                s = sold == null ? s : sold;
            }
            act(s);
        }
        return now.week;
    }

    int undo() {
        if (acts.isEmpty()) {
            return NONE;
        }
        now = acts.remove(acts.size() - 1);
        return acts.size();
    }

    int log(int i, int what) {
        if (i < 0 || i >= 60 || i >= now.log.size() || what < 0 || what > 2) {
            return NONE;
        }
        return now.log.get(now.log.size() - 1 - i)[what];
    }

    int book(int i, int what) {
        return i < 0 || i >= now.book.size() || what < 0 || what > 2 ? NONE : now.book.get(i)[what];
    }

    int step(int plan, int i, int what) {
        if (plan < 0 || plan >= plans.size() || i < 0 || i >= plans.get(plan).size() || what < 0 || what > 2) {
            return HIDDEN;
        }
        return plans.get(plan).get(i)[what];
    }

    private State step(State s, int[] step) {
        switch (step[0]) {
            case 0:
                return s.week == 999 ? null : week(s, step[1]);
            case 1:
                return cut(s);
            case 2:
                return sell(s, step[1], step[2]);
            default:
                return pay(s, step[1]);
        }
    }

    int run(int plan, int what) {
        if (rules == null || plan < 0 || plan >= plans.size() || what < 0 || what > 1) {
            return HIDDEN;
        }
        State s = now;
        int done = 0;
        for (int[] step : plans.get(plan)) {
            State next = step(s, step);
            if (next == null) {
                return what == 0 ? done : s.money;
            }
            s = next;
            done++;
        }
        return what == 0 ? NONE : s.money;
    }

    int perform(int plan) {
        if (rules == null || plan < 0 || plan >= plans.size()) {
            return NONE;
        }
        int done = 0;
        for (int[] step : plans.get(plan)) {
            if (!act(step(now, step))) {
                break;
            }
            done++;
        }
        return done;
    }

    int weaving(int n, int v, int what) {
        if (rules == null || n < 1 || n > 8 || v < 0 || v > 60 || what < 0 || what > 1) {
            return NONE;
        }
        int best = -1;
        int bestRow = -1;
        int rows = (int) Math.round(Math.pow(3, n));
        for (int code = 0; code < rows; code++) {
            String row = Integer.toString(code, 3);
            State s = now;
            for (int i = row.length(); i < n && s != null; i++) {
                s = week(s, 0);
            }
            for (int i = 0; i < row.length() && s != null; i++) {
                s = week(s, row.charAt(i) - '0');
            }
            if (s != null && s.money + v * s.bolts > best) {
                best = s.money + v * s.bolts;
                bestRow = Integer.parseInt(row);
            }
        }
        return what == 0 ? bestRow : best;
    }

    int stands() {
        if (rules == null) {
            return NONE;
        }
        int bolts = 0;
        for (State s = week(now, 1); s != null; s = week(s, 1)) {
            bolts++;
        }
        return Math.min(60, bolts);
    }

    int soonest(int b) {
        if (rules == null || b < 1 || b > 9 || now.gone) {
            return NONE;
        }
        Map<String, State> front = new HashMap<>();
        front.put("", now);
        for (int weeks = 1; weeks <= 30; weeks++) {
            Map<String, State> next = new HashMap<>();
            for (State s : front.values()) {
                for (int deed = 0; deed <= 1; deed++) {
                    State t = week(s, deed);
                    if (t != null && !t.gone) {
                        if (t.book.size() - now.book.size() == b) {
                            return weeks;
                        }
                        t.log.clear();
                        next.put(t.down + " " + t.doubt + " " + t.book.size(), t);
                    }
                }
            }
            front = next;
        }
        return NONE;
    }

    private int dueSum(int upTo) {
        int all = 0;
        for (int i = 0; i < debts.size(); i++) {
            if (!now.paid.contains(i) && debts.get(i)[0] <= upTo) {
                all += owes(i, now.week);
            }
        }
        return all;
    }

    int paying(int what) {
        if (rules == null || what < 0 || what > 1) {
            return NONE;
        }
        long best = Long.MAX_VALUE;
        for (int set = 0; set < 1 << debts.size(); set++) {
            long price = 0;
            long growth = 0;
            boolean open = true;
            for (int i = 0; i < debts.size(); i++) {
                boolean in = (set & 1 << i) != 0;
                open &= !(in && now.paid.contains(i));
                price += in ? owes(i, now.week) : 0;
                if (!in && !now.paid.contains(i)) {
                    growth += owes(i, now.week + 1) - owes(i, now.week);
                }
            }
            if (open && price <= now.money) {
                best = Math.min(best, (growth * 1000000 + price) * 64 + set);
            }
        }
        return (int) (what == 0 ? best % 64 : best / 64 / 1000000);
    }

    int moon() {
        if (rules == null) {
            return NONE;
        }
        int means = now.money;
        for (int w = now.week; w <= now.week + 60; w++) {
            if (dueSum(w) > means) {
                return w;
            }
            means += rules[4];
        }
        return NONE;
    }

    private int bestSales(int buyer, int without, int bolts, int thirds, Map<Integer, Integer> known) {
        if (buyer == buyers.size()) {
            return 0;
        }
        int key = (buyer * 1000 + bolts) * 1000 + thirds;
        if (known.containsKey(key)) {
            return known.get(key);
        }
        int best = 0;
        int wants = (without & 1 << buyer) != 0 ? 0 : buyers.get(buyer)[2] - now.sold[buyer];
        for (int a = 0; a <= Math.min(wants, bolts); a++) {
            for (int b = 0; b <= Math.min(wants - a, thirds); b++) {
                int got = a * buyers.get(buyer)[0] + b * buyers.get(buyer)[1];
                best = Math.max(best, got + bestSales(buyer + 1, without, bolts - a, thirds - b, known));
            }
        }
        known.put(key, best);
        return best;
    }

    private int[] sales(int without) {
        int best = -1;
        int cuts = 0;
        for (int c = 0; c <= now.bolts; c++) {
            int got = bestSales(0, without, now.bolts - c, now.thirds + 3 * c, new HashMap<>());
            if (got > best) {
                best = got;
                cuts = c;
            }
        }
        return new int[] {best, cuts};
    }

    int market(int what) {
        return rules == null || what < 0 || what > 1 ? NONE : sales(0)[what];
    }

    int ring(int set) {
        return rules == null || set < 0 || set >= 1 << buyers.size() ? NONE : sales(0)[0] - sales(set)[0];
    }

    int pieces(int what) {
        if (rules == null || what < 0 || what > 1) {
            return HIDDEN;
        }
        int best = Integer.MIN_VALUE;
        int who = -1;
        for (int[] b : buyers) {
            best = Math.max(best, 3 * b[1] - b[0]);
        }
        for (int i = buyers.size() - 1; i >= 0; i--) {
            who = 3 * buyers.get(i)[1] - buyers.get(i)[0] == best ? i : who;
        }
        return what == 0 ? who : best;
    }

    int game(int x, int y, int what) {
        if (rules == null || x < 0 || x > 1 || y < 0 || y > 1 || what < 0 || what > 1) {
            return HIDDEN;
        }
        int[][] table = {{2 - now.doubt / 3, 4 - now.doubt / 3}, {3, 5}, {6, 0}, {3, 1}};
        return table[2 * x + y][what];
    }

    int rests(int i) {
        if (rules == null) {
            return NONE;
        }
        List<Integer> all = new ArrayList<>();
        for (int x = 0; x < 2; x++) {
            for (int y = 0; y < 2; y++) {
                boolean heWould = game(1 - x, y, 0) > game(x, y, 0);
                boolean sheWould = game(x, 1 - y, 1) > game(x, y, 1);
                if (!heWould && !sheWould) {
                    all.add(10 * x + y);
                }
            }
        }
        return i == NONE ? all.size() : i < 0 || i >= all.size() ? NONE : all.get(i);
    }

    int test(int sort, boolean is) {
        if (rules == null || sort < 0 || sort > 2 || testSorts.size() == 12) {
            return NONE;
        }
        testSorts.add(sort);
        craneTests.add(new boolean[] {is});
        return testSorts.size();
    }

    int crane() {
        if (rules == null) {
            return NONE;
        }
        BigInteger crane = BigInteger.ONE;
        BigInteger goose = BigInteger.ONE;
        for (int i = 0; i < testSorts.size(); i++) {
            int c = "986".charAt(testSorts.get(i)) - '0';
            int g = "235".charAt(testSorts.get(i)) - '0';
            boolean is = craneTests.get(i)[0];
            crane = crane.multiply(BigInteger.valueOf(is ? c : 10 - c));
            goose = goose.multiply(BigInteger.valueOf(is ? g : 10 - g));
        }
        return crane.multiply(BigInteger.valueOf(1000000)).divide(crane.add(goose)).intValue();
    }

    int sign(int sort, int a, boolean is) {
        if (rules == null || sort < 0 || sort > 2 || a < 0 || a > 99 || signs.size() == 10) {
            return NONE;
        }
        signs.add(new int[] {sort, a, is ? 1 : 0});
        return signs.size();
    }

    private List<Integer> fitting() {
        List<Integer> all = new ArrayList<>();
        for (int i = 0; i < now.book.size(); i++) {
            boolean fits = true;
            for (int[] s : signs) {
                fits &= now.book.get(i)[s[0]] >= s[1] == (s[2] == 1);
            }
            if (fits) {
                all.add(i);
            }
        }
        return all;
    }

    int from(int i) {
        if (rules == null) {
            return NONE;
        }
        List<Integer> all = fitting();
        return i == NONE ? all.size() : i < 0 || i >= all.size() ? NONE : all.get(i);
    }

    int ask() {
        if (rules == null || fitting().isEmpty()) {
            return NONE;
        }
        int best = 0;
        int least = 1000;
        for (int sort = 0; sort < 3; sort++) {
            for (int a = 0; a < 100; a++) {
                int yes = 0;
                for (int bolt : fitting()) {
                    yes += now.book.get(bolt)[sort] >= a ? 1 : 0;
                }
                int apart = Math.abs(yes - (fitting().size() - yes));
                if (apart < least) {
                    least = apart;
                    best = 100 * sort + a;
                }
            }
        }
        return best;
    }

    int odds(int n, int chance) {
        if (rules == null || n < 0 || n > 30 || chance < 0 || chance > 100) {
            return NONE;
        }
        BigInteger left = BigInteger.valueOf(now.gone ? 0 : 1000000000);
        for (int i = 0; i < n; i++) {
            left = left.subtract(left.multiply(BigInteger.valueOf(chance)).divide(BigInteger.valueOf(100)));
        }
        return left.intValue();
    }

    int owed(int what) {
        if (rules == null || what < 0 || what > 2) {
            return HIDDEN;
        }
        int late = 0;
        int next = NONE;
        int first = 1000;
        for (int i = 0; i < debts.size(); i++) {
            if (!now.paid.contains(i)) {
                late += debts.get(i)[0] < now.week ? 1 << i : 0;
                if (debts.get(i)[0] < first) {
                    first = debts.get(i)[0];
                    next = i;
                }
            }
        }
        return what == 0 ? dueSum(100000) : what == 1 ? late : next;
    }

    int bears(int d) {
        if (rules == null || d < 0 || d > 60) {
            return NONE;
        }
        State s = now;
        for (int weeks = 0; weeks <= 60; weeks++) {
            if (s.down >= d) {
                return weeks;
            }
            s = week(s, 0);
        }
        return NONE;
    }

    int best() {
        int best = NONE;
        for (int i = 0; i < buyers.size(); i++) {
            if (now.sold[i] < buyers.get(i)[2] && (best == NONE || buyers.get(i)[0] > buyers.get(best)[0])) {
                best = i;
            }
        }
        return best;
    }

    int thin() {
        int week = NONE;
        int least = 1000;
        for (int[] b : now.book) {
            if (b[1] < least) {
                least = b[1];
                week = b[0];
            }
        }
        return week;
    }

    int weaves() {
        if (best() == NONE) {
            return NONE;
        }
        int weeks = 0;
        for (int grown = 0; grown < takes(now) && rules[2] > 0; grown += rules[2]) {
            weeks++;
        }
        weeks = rules[2] == 0 ? 1 : weeks;
        return buyers.get(best())[0] > weeks * rules[4] ? 1 : 0;
    }

    int image() {
        if (rules == null) {
            return NONE;
        }
        image = now.copy();
        return now.week;
    }

    int back() {
        if (image == null) {
            return NONE;
        }
        now = image.copy();
        acts = new ArrayList<>();
        return now.week;
    }

    int count(int what) {
        int[] all = {buyers.size(), debts.size(), laws.size(), plans.size(), tape.length(), holds, now.week, now.money,
            now.bolts, now.thirds, now.gone ? 1 : 0, now.iron ? 1 : 0, lazy, testSorts.size(), signs.size(),
            now.book.size(), Math.min(60, now.log.size()), acts.size()};
        return what < 0 || what >= all.length ? HIDDEN : all[what];
    }
}
