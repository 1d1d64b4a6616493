import java.util.Arrays;

/** What the tests by hand share: answers that are due, and benches whose LETTERS are told by a TEXT or by PARTS. */
abstract class Asking {
    static final long NO_SUCH = -2_000_000_000_000_000_000L;
    static final long OTHER_KIND = -3_000_000_000_000_000_000L;
    static final long NOT_WHOLE = -1_000_000_000_000_000_000L;
    static final int NO_PART = -1_000_000_000;
    private static final int MOST_BYTES = 120;
    private static final String[] UNITS = {"1", "x", "y", "x*y", "p", "x*p", "y*p", "x*y*p", "m", "x*m", "y*m",
        "x*y*m", "p*m", "x*p*m", "y*p*m", "x*y*p*m"};
    private static int wrong = 0;
    private static int asked = 0;

    static void due(String call, long got, long want) {
        asked++;
        if (got == want) return;
        wrong++;
        System.out.println(call + " answered " + got + ", due is " + want);
    }

    static void due(String call, boolean got, boolean want) {
        due(call, got ? 1 : 0, want ? 1 : 0);
    }

    /** Tells how many answers were asked; ends with 1 if one was wrong. */
    static void close() {
        System.out.println(asked + " answers asked, " + wrong + " wrong");
        if (wrong != 0) System.exit(1);
    }

    // ---- the tape

    static void lay(BladesBench bench, String text) {
        for (int at = 0; at < text.length(); at += 20) {
            int[] words = new int[5];
            for (int i = 0; i < 20; i++) {
                int sign = at + i < text.length() ? text.charAt(at + i) : 0;
                words[i / 4] = words[i / 4] << 8 | sign & 255;
            }
            bench.feed(words[0], words[1], words[2], words[3], words[4]);
        }
    }

    static int work(BladesBench bench, String text) {
        lay(bench, text);
        return bench.work(text.length());
    }

    static int book(BladesBench bench, String text) {
        lay(bench, text);
        return bench.book(text.length());
    }

    static int check(BladesBench bench, int... kinds) {
        StringBuilder text = new StringBuilder();
        for (int kind : kinds) text.append((char) kind);
        lay(bench, text.toString());
        return bench.check(kinds.length);
    }

    /** What WORK answers to a TEXT on a new object. */
    static void answers(String text, int want) {
        due("work " + text, work(new BladesBench(), text), want);
    }

    // ---- benches

    /** A new object on which a TEXT has been done. */
    static BladesBench made(String text) {
        BladesBench bench = new BladesBench();
        int answer = work(bench, text);
        if (answer < 1) due("the test's own text " + text, answer, 1);
        return bench;
    }

    /** Sixteen PARTS, from pairs of a PART and its number. */
    static long[] form(long... numbers) {
        long[] parts = new long[16];
        for (int i = 0; i + 1 < numbers.length; i += 2) parts[(int) numbers[i]] = numbers[i + 1];
        return parts;
    }

    /** a x + b y + c p + d m. */
    static long[] vector(long a, long b, long c, long d) {
        return form(1, a, 2, b, 4, c, 8, d);
    }

    /** The POINT (u / w, v / w), with whole PARTS; w = 1: the PLACE. */
    static long[] spot(long u, long v, long w) {
        return vector(2 * u * w, 2 * v * w, u * u + v * v - w * w, u * u + v * v + w * w);
    }

    static long[] times(long number, long[] form) {
        long[] parts = form.clone();
        for (int part = 0; part < 16; part++) parts[part] *= number;
        return parts;
    }

    /** The FORM whose DUAL is a VECTOR; by #x = -y p m, #y = x p m, #p = -x y m, #m = -x y p. */
    static long[] undual(long[] vector) {
        return form(14, vector[1], 13, -vector[2], 11, vector[4], 7, vector[8]);
    }

    /** A new object with A, B, C .. as told. */
    static BladesBench with(long[]... forms) {
        BladesBench bench = new BladesBench();
        for (int letter = 0; letter < forms.length; letter++) put(bench, letter, forms[letter]);
        return bench;
    }

    /** Makes a LETTER stand for a FORM by as much WORK as it takes. */
    static void put(BladesBench bench, int letter, long[] form) {
        char name = (char) ('A' + letter);
        StringBuilder text = new StringBuilder(name + "=0");
        for (int part = 0; part < 16; part++) {
            for (long left = Math.abs(form[part]); left > 0; ) {
                long factor = left > 9999 ? 9999 : 1;
                long number = Math.min(left / factor, 9999);
                left -= number * factor;
                String term = (form[part] < 0 ? "-" : "+") + number + (factor > 1 ? "*9999*" : "*") + UNITS[part];
                if (text.length() + term.length() > MOST_BYTES) {
                    flush(bench, text);
                    text = new StringBuilder(name + "=" + name);
                }
                text.append(term);
            }
        }
        flush(bench, text);
        long[] got = new long[16];
        for (int part = 0; part < 16; part++) got[part] = bench.part(letter, part);
        if (!Arrays.equals(got, form)) due("the test's own form " + Arrays.toString(form), 0, 1);
    }

    private static void flush(BladesBench bench, StringBuilder text) {
        int answer = work(bench, text.toString());
        if (answer != 1) due("the test's own text " + text, answer, 1);
    }
}
