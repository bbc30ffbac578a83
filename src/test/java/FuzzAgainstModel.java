import java.nio.charset.StandardCharsets;
import java.util.ArrayList;
import java.util.List;
import java.util.NoSuchElementException;
import java.util.Random;

/** Long runs of drawn calls: the class must answer as the model does, and never throw but where told. */
public final class FuzzAgainstModel {
    private final Random random;
    private final CraneCloth x = new CraneCloth();
    private final Model m = new Model();
    private final List<String> told = new ArrayList<>();
    private int calls = 0;

    private FuzzAgainstModel(long seed) {
        random = new Random(seed);
    }

    public static void main(String[] args) {
        int objects = args.length > 0 ? Integer.parseInt(args[0]) : 400;
        int first = args.length > 1 ? Integer.parseInt(args[1]) : 0;
        long all = 0;
        for (int i = first; i < first + objects; i++) {
            FuzzAgainstModel fuzz = new FuzzAgainstModel(i);
            if (!fuzz.live()) {
                System.out.println("object " + i);
                System.exit(1);
            }
            all += fuzz.calls;
        }
        System.out.println(all + " drawn calls are answered as by the model");
    }

    private boolean same(String call, long got, long want) {
        calls++;
        told.add(call + " -> " + got);
        if (got == want) {
            return true;
        }
        for (String line : told.subList(Math.max(0, told.size() - 40), told.size())) {
            System.out.println("  " + line);
        }
        System.out.println("due was " + want);
        return false;
    }

    private boolean live() {
        int kind = random.nextInt(10);
        if (kind >= 7) {
            if (!farBegun(kind)) {
                return false;
            }
        } else if (random.nextInt(4) > 0) {
            if (!tell(0, house())) {
                return false;
            }
        }
        while (calls < 490) {
            boolean well;
            int which = random.nextInt(100);
            if (which < 12) {
                well = texts();
            } else if (which < 55) {
                well = acts(kind);
            } else {
                well = asks();
            }
            if (!well) {
                return false;
            }
        }
        for (int what = -1; what <= 18; what++) {
            if (!same("count(" + what + ")", x.count(what), m.count(what))) {
                return false;
            }
        }
        return true;
    }

    /** A house with nearly the most money (7), in one of the last weeks (8), or with a book that is nearly full (9). */
    private boolean farBegun(int kind) {
        boolean well = kind == 9 ? tell(0, "sw60m60g9t1l20k0;bn9p60q30;bn9;d") : tell(0, house());
        if (kind == 7) {
            int gifts = 98 + random.nextInt(3);
            for (int i = 0; i < gifts && well; i++) {
                well = same("give(99)", x.give(99), m.give(99));
            }
        } else if (kind == 8) {
            for (int i = 0; i < 17 && well; i++) {
                int n = i < 16 ? 60 : 30 + random.nextInt(10);
                long seed = random.nextLong();
                well = same("lives(" + n + ", " + seed + ")", x.lives(n, seed), m.lives(n, seed));
            }
        } else {
            well = well && same("iron(true)", x.iron(true) ? 1 : 0, m.iron(true) ? 1 : 0);
            int bolts = 50 + random.nextInt(12);
            for (int i = 0; i < bolts && well; i++) {
                well = same("week(1)", x.week(1), m.week(1));
            }
        }
        return well;
    }

    /** A number near its bounds, mostly within. */
    private int near(int low, int high) {
        int which = random.nextInt(30);
        if (which == 0) {
            return low - 1;
        }
        if (which == 1) {
            return high + 1;
        }
        if (which == 2) {
            int[] far = {Integer.MIN_VALUE, Integer.MAX_VALUE, -2, 1000, 64};
            return far[random.nextInt(far.length)];
        }
        return low + random.nextInt(high - low + 1);
    }

    private boolean tell(int sort, String text) {
        byte[] bytes = text.getBytes(StandardCharsets.ISO_8859_1);
        if (!same("end(0)", x.end(0) ? 1 : 0, m.end(0) ? 1 : 0)) {
            return false;
        }
        for (int from = 0; from < bytes.length; from += 20) {
            int[] w = Check.words(bytes, from);
            if (!same("feed " + text.substring(from, Math.min(text.length(), from + 20)),
                x.feed(w[0], w[1], w[2], w[3], w[4]), m.feed(w))) {
                return false;
            }
        }
        return same("fault(" + sort + ")", x.fault(sort), m.fault(sort))
            && same("text(" + sort + ")", x.text(sort), m.text(sort));
    }

    private boolean texts() {
        int which = random.nextInt(20);
        if (which == 0) {
            return tell(0, house());
        }
        if (which == 1) {
            return tell(0, crowdedHouse());
        }
        if (which < 5) {
            return tell(0, spoilt(house(), "sdbwmgtpklnviq0123456789; x"));
        }
        if (which < 8) {
            return tell(1, spaced(law()));
        }
        if (which < 12) {
            return tell(1, spoilt(law(), "y:wtknm0123456789+-*/[]()!&|=<>?; "));
        }
        if (which < 14) {
            return tell(2, spaced(plan()));
        }
        if (which < 16) {
            return tell(2, spoilt(plan(), "wcsp0123456789; "));
        }
        if (which == 16) {
            int[] w = {random.nextInt(), random.nextInt(), 0, random.nextInt() & 0xff00ff, random.nextInt()};
            return same("feed", x.feed(w[0], w[1], w[2], w[3], w[4]), m.feed(w));
        }
        if (which == 17) {
            int n = near(0, 60);
            return same("end(" + n + ")", x.end(n) ? 1 : 0, m.end(n) ? 1 : 0);
        }
        int sort = near(0, 2);
        return which == 18 ? same("fault(" + sort + ")", x.fault(sort), m.fault(sort))
            : same("text(" + sort + ")", x.text(sort), m.text(sort));
    }

    private String house() {
        List<String> clauses = new ArrayList<>();
        if (random.nextInt(5) > 0) {
            int most = 1 + random.nextInt(60);
            String s = "s";
            if (random.nextInt(3) > 0) {
                s += "m" + most + "w" + random.nextInt(most + 1);
            }
            s += item("g", 0, 9) + item("t", 1, 20) + item("p", 0, 9) + item("k", 0, 9) + item("l", 1, 20);
            clauses.add(s);
        }
        int debts = random.nextInt(7);
        for (int i = 0; i < debts; i++) {
            clauses.add("d" + item("n", 1, random.nextBoolean() ? 60 : 9) + item("v", 1, random.nextBoolean() ? 99 : 20) + item("i", 0, 9));
        }
        int buyers = 1 + random.nextInt(5);
        for (int i = 0; i < buyers; i++) {
            clauses.add(random.nextInt(clauses.size() + 1), "b" + item("n", 1, 9) + item("q", 0, 30) + item("p", 0, 60));
        }
        return spaced(String.join(";", clauses));
    }

    /** About as many clauses as a house can have, some of them too many, with few items and many blanks. */
    private String crowdedHouse() {
        List<String> clauses = new ArrayList<>();
        String all = "sddddddbbbbb";
        for (int i = 0; i < all.length(); i++) {
            if (random.nextInt(30) > 0) {
                clauses.add(random.nextInt(clauses.size() + 1), all.substring(i, i + 1));
            }
        }
        if (random.nextInt(3) > 0) {
            String[] more = {"s", "d", "b", "x", "", "1", "bn2", "s;d"};
            clauses.add(more[random.nextInt(more.length)]);
        }
        String blanks = " ".repeat(random.nextInt(3));
        return spaced(String.join(random.nextBoolean() ? ";" + blanks : blanks + ";", clauses)) + " ".repeat(random.nextInt(3));
    }

    private String item(String letter, int low, int high) {
        return random.nextInt(3) == 0 ? "" : letter + (low + random.nextInt(high - low + 1));
    }

    /** Blanks between signs, not between digits. */
    private String spaced(String text) {
        if (random.nextInt(3) > 0 || text.length() > 110) {
            return text;
        }
        StringBuilder out = new StringBuilder(random.nextBoolean() ? " " : "");
        for (int i = 0; i < text.length(); i++) {
            out.append(text.charAt(i));
            boolean number = i + 1 < text.length() && Character.isDigit(text.charAt(i)) && Character.isDigit(text.charAt(i + 1));
            if (!number && random.nextInt(3) == 0) {
                out.append(' ');
            }
        }
        return out.toString();
    }

    private String spoilt(String text, String signs) {
        StringBuilder out = new StringBuilder(text);
        int times = 1 + random.nextInt(2);
        for (int i = 0; i < times; i++) {
            int at = random.nextInt(out.length() + 1);
            char sign = signs.charAt(random.nextInt(signs.length()));
            int how = random.nextInt(4);
            if (how == 0 || at == out.length()) {
                out.insert(at, sign);
            } else if (how == 1) {
                out.deleteCharAt(at);
            } else if (how == 2) {
                out.setCharAt(at, sign);
            } else {
                out.setLength(at);
            }
        }
        return out.toString();
    }

    private String plan() {
        StringBuilder out = new StringBuilder();
        int steps = 1 + random.nextInt(random.nextInt(6) == 0 ? 17 : 8);
        for (int i = 0; i < steps; i++) {
            out.append(i == 0 ? "" : ";");
            String[] all = {"w" + random.nextInt(random.nextInt(6) == 0 ? 4 : 3), "w1", "w2", "c",
                "s" + random.nextInt(4) + random.nextInt(2), "p" + random.nextInt(4)};
            out.append(all[random.nextInt(all.length)]);
        }
        return out.toString();
    }

    private String law() {
        StringBuilder out = new StringBuilder();
        int clauses = 1 + random.nextInt(3);
        for (int i = 0; i < clauses; i++) {
            out.append(i == 0 ? "y:" : ";y:");
            if (random.nextInt(3) > 0) {
                out.append(condition(random.nextInt(4))).append('?');
            }
            out.append(sum(random.nextInt(4)));
        }
        return out.length() > 220 ? "y:t/2+n" : out.toString();
    }

    private String condition(int depth) {
        switch (random.nextInt(depth <= 0 ? 2 : 6)) {
            case 2:
                return "!" + unit(depth - 1);
            case 3:
                return condition(depth - 1) + "|" + condition(depth - 1);
            case 4:
                return unit(depth - 1) + "&" + unit(depth - 1);
            default:
                return unit(depth - 1);
        }
    }

    private String unit(int depth) {
        switch (random.nextInt(depth <= 0 ? 2 : 5)) {
            case 2:
                return "!" + unit(depth - 1);
            case 3:
                return "(" + condition(depth - 1) + ")";
            default:
                return sum(depth - 1) + "=<>".charAt(random.nextInt(3)) + sum(depth - 1);
        }
    }

    private String sum(int depth) {
        switch (random.nextInt(depth <= 0 ? 2 : 5)) {
            case 0:
                return String.valueOf("wtknym".charAt(random.nextInt(6)));
            case 1:
                return String.valueOf(random.nextInt(random.nextInt(5) == 0 ? 10000 : 12));
            case 2:
                return "[" + sum(depth - 1) + "]";
            default:
                return sum(depth - 1) + "+-*/".charAt(random.nextInt(4)) + sum(depth - 1);
        }
    }

    private boolean acts(int kind) {
        int which = random.nextInt(40);
        if (which < 14) {
            int deed = random.nextInt(kind == 0 ? 6 : 30) == 0 ? near(0, 3) : random.nextInt(3);
            return same("week(" + deed + ")", x.week(deed), m.week(deed));
        }
        if (which < 17) {
            return same("cut()", x.cut(), m.cut());
        }
        if (which < 22) {
            int a = near(0, 3);
            int b = near(0, 1);
            return same("sell(" + a + ", " + b + ")", x.sell(a, b), m.sell(a, b));
        }
        if (which < 25) {
            int a = near(0, 4);
            return same("pay(" + a + ")", x.pay(a), m.pay(a));
        }
        if (which < 27) {
            boolean is = random.nextBoolean();
            return same("iron(" + is + ")", x.iron(is) ? 1 : 0, m.iron(is) ? 1 : 0);
        }
        if (which < 30) {
            int n = near(1, 99);
            return same("give(" + n + ")", x.give(n), m.give(n));
        }
        if (which < 32) {
            int n = kind == 1 ? 55 + random.nextInt(6) : near(1, 20);
            long seed = random.nextLong();
            return same("lives(" + n + ", " + seed + ")", x.lives(n, seed), m.lives(n, seed));
        }
        if (which < 34) {
            int times = kind == 2 ? 12 : 1;
            boolean well = true;
            for (int i = 0; i < times && well; i++) {
                well = same("undo()", x.undo(), m.undo());
            }
            return well;
        }
        if (which < 36) {
            int p = near(0, 3);
            return same("perform(" + p + ")", x.perform(p), m.perform(p));
        }
        if (which == 36) {
            return random.nextInt(2) > 0 || same("image()", x.image(), m.image());
        }
        if (which == 37) {
            return random.nextInt(3) > 0 || same("back()", x.back(), m.back());
        }
        if (which == 38) {
            int law = near(-1, 3);
            return same("law(" + law + ")", x.law(law) ? 1 : 0, m.law(law) ? 1 : 0);
        }
        int v = near(0, 9);
        return same("lazy(" + v + ")", x.lazy(v) ? 1 : 0, m.lazy(v) ? 1 : 0);
    }

    private boolean asks() {
        int a = near(0, 3);
        int b = near(0, 1);
        int c = near(0, 2);
        int p = near(0, 60);
        boolean is = random.nextBoolean();
        switch (random.nextInt(31)) {
            case 0:
                int rule = near(0, 6);
                return same("rule(" + rule + ")", x.rule(rule), m.rule(rule));
            case 1:
                int part = near(0, 4);
                return same("debt(" + a + ", " + part + ")", x.debt(a, part), m.debt(a, part));
            case 2:
                return buyer(near(0, 4), near(0, 3));
            case 3:
                return same("log", x.log(p, c), m.log(p, c)) && same("log", x.log(a, c), m.log(a, c));
            case 4:
                return same("book", x.book(p, c), m.book(p, c)) && same("book", x.book(a, c), m.book(a, c));
            case 5:
                int i = near(0, 15);
                return same("step(" + a + ", " + i + ", " + c + ")", x.step(a, i, c), m.step(a, i, c));
            case 6:
                return same("run(" + a + ", " + b + ")", x.run(a, b), m.run(a, b));
            case 7:
                int n = random.nextInt(20) == 0 ? near(1, 7) : near(1, 5);
                return same("weaving(" + n + ", " + p + ", " + b + ")", x.weaving(n, p, b), m.weaving(n, p, b));
            case 8:
                return same("stands()", x.stands(), m.stands());
            case 9:
                int bolts = near(1, 9);
                return same("soonest(" + bolts + ")", x.soonest(bolts), m.soonest(bolts));
            case 10:
                return same("paying(" + b + ")", x.paying(b), m.paying(b));
            case 11:
                return same("moon()", x.moon(), m.moon());
            case 12:
                return same("market(" + b + ")", x.market(b), m.market(b));
            case 13:
                int set = near(0, 31);
                return same("ring(" + set + ")", x.ring(set), m.ring(set));
            case 14:
                return same("pieces(" + b + ")", x.pieces(b), m.pieces(b));
            case 15:
                int y = near(0, 1);
                int what = near(0, 1);
                return same("game(" + b + ", " + y + ", " + what + ")", x.game(b, y, what), m.game(b, y, what));
            case 16:
                int r = near(-1, 2);
                return same("rests(" + r + ")", x.rests(r), m.rests(r));
            case 17:
                return random.nextInt(3) > 0 || same("test(" + c + ", " + is + ")", x.test(c, is), m.test(c, is));
            case 18:
                return same("crane()", x.crane(), m.crane());
            case 19:
                int least = random.nextBoolean() ? near(0, 99) : near(0, 12);
                return random.nextInt(4) > 0
                    || same("sign(" + c + ", " + least + ", " + is + ")", x.sign(c, least, is), m.sign(c, least, is));
            case 20:
                int f = near(-1, 5);
                return same("from(" + f + ")", x.from(f), m.from(f));
            case 21:
                return same("ask()", x.ask(), m.ask());
            case 22:
                int weeks = near(0, 30);
                int chance = near(0, 100);
                return same("odds(" + weeks + ", " + chance + ")", x.odds(weeks, chance), m.odds(weeks, chance));
            case 23:
                return same("owed(" + c + ")", x.owed(c), m.owed(c));
            case 24:
                return same("bears(" + p + ")", x.bears(p), m.bears(p));
            case 25:
                return same("best()", x.best(), m.best());
            case 26:
                return same("thin()", x.thin(), m.thin());
            case 27:
                return same("weaves()", x.weaves(), m.weaves());
            default:
                int count = near(0, 17);
                return same("count(" + count + ")", x.count(count), m.count(count));
        }
    }

    private boolean buyer(int buyer, int what) {
        long want;
        long got;
        try {
            want = m.buyer(buyer, what);
        } catch (NoSuchElementException e) {
            want = Long.MIN_VALUE;
        }
        try {
            got = x.buyer(buyer, what);
        } catch (NoSuchElementException e) {
            got = Long.MIN_VALUE;
        }
        return same("buyer(" + buyer + ", " + what + ")", got, want);
    }
}
