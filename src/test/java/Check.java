import java.nio.charset.StandardCharsets;
import java.util.NoSuchElementException;

/** What the tests share: counting wrong answers, and feeding texts. */
final class Check {
    private static int wrong = 0;
    private static int asked = 0;

    private Check() {
    }

    static void due(int promise, String call, long got, long want) {
        asked++;
        if (got != want) {
            wrong++;
            System.out.println("promise " + promise + ": " + call + " answered " + got + ", due is " + want);
        }
    }

    static void due(int promise, String call, boolean got, boolean want) {
        due(promise, call, got ? 1 : 0, want ? 1 : 0);
    }

    static void buyerThrows(int promise, CraneCloth x, int buyer, int what) {
        boolean thrown = false;
        try {
            x.buyer(buyer, what);
        } catch (NoSuchElementException e) {
            thrown = true;
        }
        due(promise, "buyer(" + buyer + ", " + what + ") throws", thrown, true);
    }

    /** All bytes of a text to the tape, behind what is there; what the last feed answered. */
    static int feed(CraneCloth x, String text) {
        byte[] bytes = text.getBytes(StandardCharsets.ISO_8859_1);
        int answer = x.feed(0, 0, 0, 0, 0);
        for (int from = 0; from < bytes.length; from += 20) {
            int[] words = words(bytes, from);
            answer = x.feed(words[0], words[1], words[2], words[3], words[4]);
        }
        return answer;
    }

    static int[] words(byte[] bytes, int from) {
        int[] words = new int[5];
        for (int i = 0; i < 20 && from + i < bytes.length; i++) {
            words[i / 4] |= (bytes[from + i] & 255) << 24 - 8 * (i % 4);
        }
        return words;
    }

    static int fault(CraneCloth x, int sort, String text) {
        x.end(0);
        feed(x, text);
        return x.fault(sort);
    }

    static int tell(CraneCloth x, int sort, String text) {
        x.end(0);
        feed(x, text);
        return x.text(sort);
    }

    /** A new object with a house. */
    static CraneCloth house(String text) {
        CraneCloth x = new CraneCloth();
        if (tell(x, 0, text) < 1) {
            wrong++;
            System.out.println("no house: " + text);
        }
        return x;
    }

    static void weeks(CraneCloth x, String deeds) {
        for (int i = 0; i < deeds.length(); i++) {
            if (x.week(deeds.charAt(i) - '0') == CraneCloth.NONE) {
                wrong++;
                System.out.println("a week was refused: " + deeds + " at " + i);
            }
        }
    }

    /** MONEY is brought up to a sum. */
    static void riches(CraneCloth x, int money) {
        for (int i = 0; i < 110 && x.count(7) < money; i++) {
            x.give(Math.min(99, money - x.count(7)));
        }
    }

    /** All that can be seen of an object without changing it. */
    static String seen(CraneCloth x) {
        StringBuilder all = new StringBuilder();
        for (int i = 0; i <= 17; i++) {
            all.append(x.count(i)).append(' ');
        }
        for (int i = 0; i <= 6; i++) {
            all.append(x.rule(i)).append(' ');
        }
        for (int i = 0; i < x.count(1); i++) {
            for (int what = 0; what <= 4; what++) {
                all.append(x.debt(i, what)).append(' ');
            }
        }
        for (int i = 0; i < x.count(0); i++) {
            for (int what = 0; what <= 3; what++) {
                all.append(x.buyer(i, what)).append(' ');
            }
        }
        for (int i = 0; i < 60; i++) {
            for (int what = 0; what <= 2; what++) {
                all.append(x.log(i, what)).append(' ').append(x.book(i, what)).append(' ');
            }
        }
        return all.append(x.crane()).append(' ').append(x.from(-1)).append(' ').append(x.ask()).toString();
    }

    static void same(int promise, String what, String got, String want) {
        asked++;
        if (!got.equals(want)) {
            wrong++;
            System.out.println("promise " + promise + ": " + what + "\n  is  " + got + "\n  due " + want);
        }
    }

    static void finish() {
        System.out.println(wrong == 0 ? asked + " answers are as due" : wrong + " of " + asked + " answers are not as due");
        if (wrong != 0) {
            System.exit(1);
        }
    }
}
