import java.io.IOException;
import java.nio.charset.StandardCharsets;
import java.nio.file.Files;
import java.nio.file.Path;
import java.util.ArrayList;
import java.util.List;
import java.util.regex.Matcher;
import java.util.regex.Pattern;

/**
 * Names each boundary case by its promise and by the document's own words. The words are looked for in the document, and
 * at the end each refusal of a promise and each bound in the terms must have been named by a case.
 */
final class Edge {
    static final int NONE = -1;
    static final int HIDDEN = -1000000;
    /** Numbers that are out of all bounds. */
    static final int[] FAR = {Integer.MIN_VALUE, Integer.MIN_VALUE + 1, -65536, -1000, 1000, 65536, Integer.MAX_VALUE - 1,
        Integer.MAX_VALUE};

    private static final Path DOCUMENT = Path.of("../shared/DOC.md");
    private static final int PROMISES = 47;
    /** What tells of a bound in the terms. */
    private static final Pattern BOUND = Pattern.compile("\\d \\.\\. \\d|at most|at least|at first|of several|\\bcut\\b|cuts|"
        + "none to|rounded up|never grows|going round|without sign|or more|not above|more than|no less than|the latest \\d|"
        + "too early|whatever|that was there|a second s|a seventh|a sixth|a 17th|above \\d|is not there|by 0|one or two|"
        + "1 to \\d|0 without|behind 999|till she|\\bonce\\b|WANTS still|if she is not GONE|then she can't|is lost|"
        + "if she can|DUE now|first W|from this one on|later than|the fewest|the earliest|be UNDONE");

    /** The terms (0) and each promise, blanks and fences taken out. */
    private static final String[] SECTIONS = new String[PROMISES + 1];
    /** Which signs of a section were named by a case. */
    private static final boolean[][] NAMED = new boolean[PROMISES + 1][];
    private static boolean documentIsThere;
    private static int promise;
    private static String words;

    private Edge() {
    }

    static void open() throws IOException {
        // the cases themselves need no document: without it only their names can't be looked up
        documentIsThere = Files.exists(DOCUMENT);
        if (!documentIsThere) {
            System.out.println("no " + DOCUMENT + ": the words of the cases are not looked up");
            return;
        }
        String all = Files.readString(DOCUMENT, StandardCharsets.UTF_8);
        SECTIONS[0] = part(all, "## Terms", "\n## ");
        for (int i = 1; i <= PROMISES; i++) {
            SECTIONS[i] = part(all, "## Promise " + i + ":", "\n## ");
        }
        for (int i = 0; i <= PROMISES; i++) {
            NAMED[i] = new boolean[SECTIONS[i].length()];
        }
    }

    private static String part(String all, String from, String to) {
        int begin = all.indexOf(from);
        int end = begin < 0 ? -1 : all.indexOf(to, begin + from.length());
        if (begin < 0 || end < 0) {
            Check.due(0, "the document has " + from, false, true);
            return "";
        }
        return all.substring(begin, end).replace("```text", " ").replace("```", " ").replaceAll("\\s+", " ");
    }

    /** The cases that follow belong to these words, of the promise itself or of the terms. */
    static void of(int promise, String words) {
        Edge.promise = promise;
        Edge.words = words;
        if (!documentIsThere) {
            return;
        }
        int section = SECTIONS[promise].contains(words) ? promise : 0;
        int at = SECTIONS[section].indexOf(words);
        Check.due(promise, "the document says '" + words + "'", at >= 0, true);
        if (section == 0 && at >= 0) {
            Check.due(promise, "only once '" + words + "'", SECTIONS[0].indexOf(words, at + 1) < 0, true);
        }
        for (int i = at; at >= 0 && i < at + words.length(); i++) {
            NAMED[section][i] = true;
        }
    }

    static void due(String call, long got, long want) {
        Check.due(promise, "'" + words + "': " + call, got, want);
    }

    static void due(String call, boolean got, boolean want) {
        Check.due(promise, "'" + words + "': " + call, got, want);
    }

    static void same(String what, String got, String want) {
        Check.same(promise, "'" + words + "': " + what, got, want);
    }

    /** An object in a week, behind rests alone; its plan 0 is sixteen rests. */
    static CraneCloth inWeek(int week, String house) {
        CraneCloth x = Check.house(house);
        Check.tell(x, 2, "w0;w0;w0;w0;w0;w0;w0;w0;w0;w0;w0;w0;w0;w0;w0;w0");
        for (int i = 0; i < week / 16; i++) {
            x.perform(0);
        }
        for (int i = 0; i < week % 16; i++) {
            x.week(0);
        }
        return x;
    }

    /** An object with a house and a law that holds. */
    static CraneCloth byLaw(String house, String law) {
        CraneCloth x = Check.house(house);
        Check.tell(x, 1, law);
        x.law(0);
        return x;
    }

    /** The state as far as some hundred calls show it: an object has 512 of them. */
    static String state(CraneCloth x) {
        StringBuilder all = new StringBuilder();
        for (int i = 0; i <= 17; i++) {
            all.append(x.count(i)).append(' ');
        }
        all.append(x.rule(0)).append(' ').append(x.rule(5)).append(' ');
        for (int i = 0; i < x.count(1); i++) {
            all.append(x.debt(i, 3)).append(' ').append(x.debt(i, 4)).append(' ');
        }
        for (int i = 0; i < x.count(0); i++) {
            all.append(x.buyer(i, 2)).append(' ').append(x.buyer(i, 3)).append(' ');
        }
        int bolts = x.count(15);
        for (int what = 0; what <= 2; what++) {
            all.append(x.log(0, what)).append(' ').append(x.log(1, what)).append(' ');
            all.append(x.log(x.count(16) - 1, what)).append(' ').append(x.book(bolts - 1, what)).append(' ');
        }
        return all.toString();
    }

    /** Each refusal that a promise lists, and each bound in the terms, was named by a case. */
    static void finish() {
        if (documentIsThere) {
            lookForUnnamed();
        }
        Check.finish();
    }

    private static void lookForUnnamed() {
        for (int i = 1; i <= PROMISES; i++) {
            for (int[] span : refusals(SECTIONS[i])) {
                named(i, span[0], span[1]);
            }
            boolean touched = false;
            for (boolean sign : NAMED[i]) {
                touched |= sign;
            }
            Check.due(i, "a case names words of this promise", touched, true);
        }
        Matcher bound = BOUND.matcher(SECTIONS[0]);
        while (bound.find()) {
            named(0, bound.start(), bound.end());
        }
    }

    private static void named(int section, int from, int to) {
        boolean all = true;
        for (int i = from; i < to; i++) {
            all &= NAMED[section][i];
        }
        String around = SECTIONS[section].substring(Math.max(0, from - 30), Math.min(SECTIONS[section].length(), to + 30));
        Check.due(section, "a case names '" + SECTIONS[section].substring(from, to) + "' in '" + around + "'", all, true);
    }

    /** Behind NONE: and its like stand refusals with commas between, up to the end of the sentence. */
    private static List<int[]> refusals(String section) {
        List<int[]> spans = new ArrayList<>();
        Matcher refusal = Pattern.compile("(?:NONE|HIDDEN|False|-2|NoSuchElementException): ([^.();]*)\\.").matcher(section);
        while (refusal.find()) {
            int from = refusal.start(1);
            for (String one : refusal.group(1).split(", ")) {
                spans.add(new int[] {from, from + one.length()});
                from += one.length() + 2;
            }
        }
        return spans;
    }
}
