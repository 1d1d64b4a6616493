import java.util.ArrayList;
import java.util.List;

/**
 * The boundaries of each call, promise by promise: the least and the greatest argument and those just beyond, sets of
 * LETTERS with one too few and one too many, NONE ahead of other reasons, what a refused call leaves as it was, and
 * the limits of what is drawn, tried, kept and taken BACK.
 */
public final class CallBoundsTest extends Asking {
    private static final int NONE = -1;
    private static final int[] FAR_OFF = {Integer.MIN_VALUE, Integer.MIN_VALUE + 1, -4096, -100, 4096, 1 << 20,
        Integer.MAX_VALUE};
    private static final String CIRCLE = "@0,0-25*f";

    public static void main(String[] args) {
        feeds();
        workAndBook();
        letterOfEachCall();
        secondLetterOfEachCall();
        numbersOfEachCall();
        setsOfLetters();
        drops();
        draws();
        drawn();
        seeds();
        trials();
        trialsInARow();
        backs();
        backOfEach();
        keeps();
        checks();
        counts();
        noneComesFirst();
        refusalsChangeNothing();
        questionsChangeNothing();
        theLastCall();
        close();
    }

    /** A call on a bench. */
    private interface Call {
        long of(BladesBench bench);
    }

    /** A call with one number that is tried out. */
    private interface Tried {
        long of(BladesBench bench, int number);
    }

    private static BladesBench full(String expression) {
        return made("A=" + expression + ";B=A;C=A;D=A;E=A;F=A;G=A;H=A;I=A;J=A;K=A;L=A");
    }

    // ---- promises 2, 3, 23

    private static void feeds() {
        BladesBench bench = new BladesBench();
        for (int fed = 20; fed <= 140; fed += 20) {
            due("feed", bench.feed(-1, Integer.MIN_VALUE, 0, 1, Integer.MAX_VALUE), fed);
            due("tape", bench.count(2), fed);
        }
        for (int n = 0; n < 3; n++) {
            due("feed beyond 140", bench.feed(0, 0, 0, 0, 0), NONE);
            due("the tape stays", bench.count(2), 140);
        }
        due("the first four stand for none", bench.check(12), 4);
        due("feed the empty tape", bench.feed(0, 0, 0, 0, 0), 20);
        // Twenty bytes, the highest of each int first: KINDS of twelve LETTERS in three ints.
        BladesBench kinds = made("A=1;B=0;C=@0,0;D=@0,0-f;E=@0,0+f;F=f;G=x;H=x*f;I=w;J=1+x*y;K=x*y*p+x;L=1+x");
        kinds.feed(0x01000203, 0x04050608, 0x1e28292a, 7, 7);
        due("the highest byte first", kinds.check(12), NONE);
        for (int at = 0; at < 12; at++) {
            int[] words = {0x01000203, 0x04050608, 0x1e28292a};
            words[at / 4] ^= 1 << 24 - 8 * (at % 4);
            kinds.feed(words[0], words[1], words[2], 0, 0);
            due("byte " + at, kinds.check(12), at);
        }
        // Behind the tape: the 21st byte is the second call's first.
        bench = new BladesBench();
        bench.feed(0x413d312b, 0x312b312b, 0x312b312b, 0x312b312b, 0x312b312b);
        bench.feed(0x37000000, 0, 0, 0, 0);
        due("21 bytes", bench.work(21), 1);
        due("nine ones and 7", bench.part(0, 0), 16);
    }

    private static void workAndBook() {
        for (int n : new int[] {-1, 0, 121, 122, 140, 141}) {
            BladesBench bench = new BladesBench();
            for (int fed = 0; fed < 7; fed++) bench.feed(0x413d3120, 0, 0, 0, 0);
            due("work " + n, bench.work(n), NONE);
            due("the tape stays", bench.count(2), 140);
            due("book " + n, bench.book(n), n == 0 ? 0 : NONE);
            due("the tape", bench.count(2), n == 0 ? 0 : 140);
        }
        for (int n : FAR_OFF) {
            due("work " + n, made("A=1").work(n), NONE);
            due("book " + n, made("A=1").book(n), NONE);
        }
        for (int n : new int[] {1, 2, 119, 120}) {
            BladesBench bench = new BladesBench();
            for (int fed = 0; fed < 7; fed++) bench.feed(0, 0, 0, 0, 0);
            due("book " + n, bench.book(n), n);
            due("the tape is empty", bench.count(2), 0);
            due("run", bench.run(), -1000);
            for (int fed = 0; fed < 7; fed++) bench.feed(0, 0, 0, 0, 0);
            due("work " + n, bench.work(n), -1000);
            due("the tape is empty", bench.count(2), 0);
        }
        BladesBench bench = new BladesBench();
        bench.feed(0x413d313b, 0x423d323b, 0, 0, 0);
        due("THE BOOK is the first bytes", bench.book(7), 7);
        due("no more than these", bench.run(), 2);
        bench.feed(0x413d3537, 0, 0, 0, 0);
        due("kept in place of the other one", bench.book(3), 3);
        due("no more than these", bench.run(), 1);
        due("as it is", bench.part(0, 0), 5);
        due("book 0", bench.book(0), 0);
        due("no bytes", bench.run(), -2);
        due("no bytes", bench.trials(0, 1, 0, 0), -2);
    }

    // ---- LETTERS that are asked

    /** All twelve LETTERS answer as due; -1, 12, far-off ones and one that stands for none are refused. */
    private static void letters(String name, String expression, long want, long refused, Tried call) {
        BladesBench bench = full(expression);
        for (int letter = 0; letter < 12; letter++) due(name + ", letter " + letter, call.of(bench, letter), want);
        due(name + ", letter -1", call.of(bench, -1), refused);
        due(name + ", letter 12", call.of(bench, 12), refused);
        for (int letter : FAR_OFF) due(name + ", letter " + letter, call.of(bench, letter), refused);
        bench.drop(11);
        due(name + ", dropped", call.of(bench, 11), refused);
        bench.drop(3);
        due(name + ", dropped", call.of(bench, 3), refused);
        due(name + ", not dropped", call.of(bench, 4), want);
        due(name + ", a new object", call.of(new BladesBench(), 0), refused);
    }

    private static void letterOfEachCall() {
        letters("part", "7*x", 7, NO_PART, (bench, letter) -> bench.part(letter, 1));
        int[] forms = {6, 2, 1, 2, 1};
        for (int what = 0; what < 5; what++) {
            int asked = what;
            letters("formIs " + what, "7*x", forms[what], NONE, (bench, letter) -> bench.formIs(letter, asked));
        }
        letters("middle", CIRCLE, 25, NO_SUCH, (bench, letter) -> bench.middle(letter, 3));
        letters("line", "3*x+2*f", 2, NO_PART, (bench, letter) -> bench.line(letter, 2));
        letters("on", CIRCLE, 1, NONE, (bench, letter) -> bench.on(letter, 3, -4));
        letters("pair", "@0,0^@4,0", 2, NO_SUCH, (bench, letter) -> bench.pair(letter, 0));
        letters("power", CIRCLE, -24, NO_SUCH, (bench, letter) -> bench.power(letter, 0, 1, 0));
        letters("row", CIRCLE, 1 << 12 | 1 << 18, NONE, (bench, letter) -> bench.row(letter, 4));
        letters("whole", CIRCLE, 12, NONE, (bench, letter) -> bench.whole(letter));
        letters("brings", "1-x*y", -5, NO_SUCH, (bench, letter) -> bench.brings(letter, 3, 5, 0));
        BladesBench bench = full("@1,2");
        book(bench, "A=A");
        for (int letter = 0; letter < 12; letter++) due("trials", bench.trials(0, 1, letter, 2), 1);
        for (int letter : new int[] {-1, 12, 13, Integer.MIN_VALUE, Integer.MAX_VALUE}) {
            due("trials", bench.trials(0, 1, letter, 2), NONE);
        }
        bench.drop(11);
        due("trials, dropped", bench.trials(0, 1, 11, 2), 0);
    }

    private static void secondLetterOfEachCall() {
        letters("product, one", "7*x", 49, NO_SUCH, (bench, letter) -> bench.product(0, letter, 5, 0));
        letters("product, other", "7*x", 49, NO_SUCH, (bench, letter) -> bench.product(2, 5, letter, 0));
        letters("product, both", "7*x", 0, NO_SUCH, (bench, letter) -> bench.product(3, letter, letter, 0));
        letters("cosine, one", "x+y", 1, NO_SUCH, (bench, letter) -> bench.cosine(letter, 5, 0));
        letters("cosine, other", "x+y", 1, NO_SUCH, (bench, letter) -> bench.cosine(5, letter, 1));
        letters("distance, one", "@1,2", 0, NO_SUCH, (bench, letter) -> bench.distance(letter, 5, 0));
        letters("distance, other", "@1,2", 1, NO_SUCH, (bench, letter) -> bench.distance(5, letter, 1));
        letters("stand, one", "x", 1, NONE, (bench, letter) -> bench.stand(letter, 5));
        letters("stand, other", "x", 1, NONE, (bench, letter) -> bench.stand(5, letter));
        letters("bundle, one", "x", 1, NONE, (bench, letter) -> bench.bundle(letter, 5, 6));
        letters("bundle, other", "x", 1, NONE, (bench, letter) -> bench.bundle(5, letter, 6));
        letters("bundle, third", "x", 1, NONE, (bench, letter) -> bench.bundle(5, 6, letter));
        letters("like, one", "x", 1, NONE, (bench, letter) -> bench.like(letter, 5));
        letters("like, other", "x", 1, NONE, (bench, letter) -> bench.like(5, letter));
        letters("lies, point", "@1,2", 1, NONE, (bench, letter) -> bench.lies(letter, 5));
        letters("lies, object", "@1,2", 1, NONE, (bench, letter) -> bench.lies(5, letter));
        letters("turned, letter", "3*x", 1, NO_PART, (bench, letter) -> bench.turned(letter, 5, 1));
        letters("turned, mirror", "3*x", 1, NO_PART, (bench, letter) -> bench.turned(5, letter, 1));
        letters("brought, one", "x", 0, NONE, (bench, letter) -> bench.brought(letter, 5, 32));
        letters("brought, other", "x", 0, NONE, (bench, letter) -> bench.brought(5, letter, 32));
        letters("come", "x", 1, NONE, (bench, letter) -> bench.come(letter, 32, 3));
    }

    // ---- numbers that are asked

    /** The numbers from low to high are taken, others are refused. */
    private static void numbers(String name, BladesBench bench, int low, int high, long refused, Tried call) {
        for (int number = low; number <= high; number++) {
            due(name + " " + number + " is taken", call.of(bench, number) != refused, true);
        }
        due(name + " " + (low - 1), call.of(bench, low - 1), refused);
        due(name + " " + (high + 1), call.of(bench, high + 1), refused);
        for (int number : FAR_OFF) due(name + " " + number, call.of(bench, number), refused);
    }

    private static void numbersOfEachCall() {
        BladesBench bench = made("A=" + CIRCLE + ";B=x+2*f;C=@0,0^@4,0;D=1-x*y;E=@3,4");
        numbers("part", bench, 0, 15, NO_PART, (b, part) -> b.part(0, part));
        numbers("letters", bench, 0, 4, NONE, (b, what) -> b.letters(what));
        numbers("formIs", bench, 0, 4, NONE, (b, what) -> b.formIs(0, what));
        numbers("middle", bench, 0, 4, NO_SUCH, (b, what) -> b.middle(0, what));
        numbers("line", bench, 0, 2, NO_PART, (b, what) -> b.line(1, what));
        numbers("on, u", bench, -99, 99, NONE, (b, u) -> b.on(0, u, 0));
        numbers("on, v", bench, -99, 99, NONE, (b, v) -> b.on(0, 0, v));
        numbers("product, kind", bench, 0, 3, NO_SUCH, (b, kind) -> b.product(kind, 0, 1, 0));
        for (int kind = 0; kind < 4; kind++) {
            int asked = kind;
            numbers("product, part", bench, 0, 15, NO_SUCH, (b, part) -> b.product(asked, 0, 1, part));
        }
        numbers("cosine", bench, 0, 1, NO_SUCH, (b, what) -> b.cosine(0, 1, what));
        numbers("distance", bench, 0, 1, NO_SUCH, (b, what) -> b.distance(4, 4, what));
        numbers("pair", bench, 0, 10, NO_SUCH, (b, what) -> b.pair(2, what));
        numbers("power, u", bench, -99, 99, NO_SUCH, (b, u) -> b.power(0, u, 0, 0));
        numbers("power, v", bench, -99, 99, NO_SUCH, (b, v) -> b.power(0, 0, v, 0));
        numbers("power", bench, 0, 1, NO_SUCH, (b, what) -> b.power(0, 0, 0, what));
        bench = made("A=" + CIRCLE + ";B=x+2*f;C=@0,0^@4,0;D=1-x*y;E=@3,4");
        numbers("row", bench, -99, 99, NONE, (b, v) -> b.row(0, v));
        numbers("meetings", bench, 0, 4, NONE, (b, what) -> b.meetings(what));
        numbers("turned", bench, 0, 15, NO_PART, (b, part) -> b.turned(4, 1, part));
        numbers("brings, u", bench, -99, 99, NO_SUCH, (b, u) -> b.brings(3, u, 0, 0));
        numbers("brings, v", bench, -99, 99, NO_SUCH, (b, v) -> b.brings(3, 0, v, 0));
        numbers("brings", bench, 0, 2, NO_SUCH, (b, what) -> b.brings(3, 1, 2, what));
        numbers("come", bench, 0, 3, NONE, (b, n) -> b.come(4, 2, n));
        numbers("draws", new BladesBench(), 1, 6, NONE, (b, n) -> b.draws(n));
        numbers("count", bench, 0, 3, NONE, (b, what) -> b.count(what));
        book(bench, "F=1");
        numbers("trials, drawn", bench, 0, 6, NONE, (b, drawn) -> b.trials(drawn, 1, 5, 1));
        numbers("trials, n", bench, 1, 20, NONE, (b, n) -> b.trials(0, n, 5, 1));
        numbers("trials, kind", bench, -1, 42, NONE, (b, kind) -> b.trials(0, 1, 5, kind));
        for (int n = 1; n <= 20; n++) due("n TRIALS", bench.trials(0, n, 5, 1), n);
        due("an edge of on", made("A=@99,-99").on(0, 99, -99), 1);
        due("an edge of power", made("A=@0,0").power(0, -99, 99, 0), 19602);
        due("an edge of brings", made("A=1-x*y").brings(0, -99, 99, 0), -99);
    }

    /** Bits of LETTERS: one to six (rank: to twelve), all of them standing for FORMS. */
    private static void setsOfLetters() {
        sets("group", 6, 2, (bench, bits) -> bench.group(bits));
        sets("brought", 6, 0, (bench, bits) -> bench.brought(0, 1, bits));
        sets("come", 6, 1, (bench, bits) -> bench.come(0, bits, 3));
        sets("rank", 12, 1, (bench, bits) -> bench.rank(bits));
    }

    private static void sets(String name, int most, long want, Tried call) {
        BladesBench bench = full("x");
        due(name + " of none", call.of(bench, 0), NONE);
        for (int letter = 0; letter < 12; letter++) due(name + " of one", call.of(bench, 1 << letter), want);
        for (int low = 0; low + 2 <= 12; low++) {
            for (int told = 2; low + told <= 12; told++) {
                due(name + " of " + told, call.of(bench, (1 << told) - 1 << low), told <= most ? want : NONE);
            }
        }
        due(name + " of six", call.of(bench, 0b101010101010), want);
        due(name + " of seven", call.of(bench, 0b101010101011), most < 7 ? NONE : want);
        for (int bits : new int[] {4096, 4097, 8192, 1 << 30, -1, -4096, -4095, Integer.MIN_VALUE, Integer.MIN_VALUE | 1}) {
            due(name + " of " + bits, call.of(bench, bits), NONE);
        }
        bench.drop(11);
        due(name + " with one that stands for none", call.of(bench, 2048), NONE);
        due(name + " with one that stands for none", call.of(bench, 2049), NONE);
        due(name + " without that one", call.of(bench, 1025), want);
    }

    // ---- promises 4, 5 and 34: drop, draws, THE SEED

    private static void drops() {
        BladesBench bench = full("x");
        for (int letter = 0; letter < 12; letter++) {
            due("drop", bench.drop(letter), true);
            due("drop again", bench.drop(letter), false);
            due("letters", bench.letters(0), 4094 << letter & 4095);
            due("count", bench.count(0), 11 - letter);
        }
        due("eight at most", bench.count(1), 8);
        for (int letter : FAR_OFF) due("drop " + letter, bench.drop(letter), false);
        due("drop -1", bench.drop(-1), false);
        due("drop 12", bench.drop(12), false);
        due("refused ones are not taken BACK", bench.back(), 7);
        due("the last one", bench.letters(0), 2048);
        BladesBench zero = made("A=0");
        due("0 is a FORM", zero.drop(0), true);
    }

    private static void draws() {
        for (int n = 1; n <= 6; n++) {
            BladesBench bench = new BladesBench();
            due("draws " + n, bench.draws(n), n);
            due("from A on", bench.letters(1), (1 << n) - 1);
            BladesBench full = full("x");
            due("draws " + n + " of all", full.draws(n), 12);
            due("the others stay", full.letters(1), (1 << n) - 1);
        }
        BladesBench bench = made("L=1;C=2");
        for (int n : new int[] {0, -1, 7, 8, Integer.MIN_VALUE, Integer.MAX_VALUE}) {
            due("draws " + n, bench.draws(n), NONE);
            due("X stays", bench.count(3), 1);
            due("letters stay", bench.letters(0), 2052);
            due("nothing to take BACK", bench.count(1), 1);
        }
        due("draws 2", bench.draws(2), 4);
        due("draws 3", bench.draws(3), 4);
    }

    /** X = (25173 X + 13849) modulo 65536; X modulo 21, less 10: from -10 to 10. */
    private static void drawn() {
        boolean[] seen = new boolean[21];
        for (int seed = 0; seed <= 65535; seed += seed < 40 || seed > 65500 ? 1 : 257) {
            BladesBench bench = new BladesBench();
            due("seed", bench.seed(seed), true);
            due("draws", bench.draws(6), 6);
            long x = seed;
            for (int letter = 0; letter < 6; letter++) {
                for (int what = 0; what < 2; what++) {
                    x = (25173 * x + 13849) % 65536;
                    int coordinate = (int) (x % 21) - 10;
                    seen[coordinate + 10] = true;
                    due("drawn by " + seed, bench.middle(letter, what), coordinate);
                    due("a PLACE", bench.part(letter, 1 + what), 2 * coordinate);
                }
                due("a PLACE", bench.part(letter, 8) - bench.part(letter, 4), 2);
            }
            due("X", bench.count(3), x);
        }
        for (int coordinate = 0; coordinate < 21; coordinate++) due("each of 21", seen[coordinate], true);
    }

    private static void seeds() {
        BladesBench bench = new BladesBench();
        due("THE SEED at first", bench.count(3), 1);
        for (int x : new int[] {0, 1, 65534, 65535}) {
            due("seed " + x, bench.seed(x), true);
            due("X too", bench.count(3), x);
        }
        for (int x : new int[] {-1, 65536, 65537, 131071, Integer.MIN_VALUE, Integer.MAX_VALUE}) {
            due("seed " + x, bench.seed(x), false);
            due("X stays", bench.count(3), 65535);
        }
        due("draws", bench.draws(1), 1);
        due("X", bench.count(3), (int) ((25173L * ((25173L * 65535 + 13849) % 65536) + 13849) % 65536));
    }

    // ---- promise 25: TRIALS

    private static void trials() {
        BladesBench bench = made("C=7;D=@0,0");
        due("no BOOK", bench.trials(1, 1, 0, 2), -2);
        book(bench, "E=A;A=D;D=A^@9,9;L=0");
        int[] kinds = {2, -1, 1, 20, 2, -1, -1, -1, -1, -1, -1, 0};
        for (int letter = 0; letter < 12; letter++) {
            for (int kind = 0; kind <= 42; kind++) {
                due("trials " + letter + " " + kind, bench.trials(1, 1, letter, kind), kind == kinds[letter] ? 1 : 0);
            }
        }
        bench = made("C=7;D=@0,0");
        book(bench, "E=A;A=D;D=A^@9,9;L=0");
        due("no FAULT", bench.trials(1, 20, 11, -1), 0);
        due("FAULTS", bench.trials(0, 20, 11, -1), 20);
        due("a FAULT: none", bench.trials(0, 20, 2, 1), 0);
        BladesBench none = new BladesBench();
        for (int drawn = 0; drawn <= 6; drawn++) {
            for (int letter = 0; letter < 7; letter++) {
                book(none, "L=" + "ABCDEFG".charAt(letter));
                due("just so many are drawn", none.trials(drawn, 20, 11, 2), letter < drawn ? 20 : 0);
                due("just so many are drawn", none.trials(drawn, 20, 11, -1), letter < drawn ? 0 : 20);
            }
        }
        due("none of them stays", none.letters(0), 0);
        due("letters stay", bench.letters(0), 12);
        due("C stays", bench.part(2, 0), 7);
        due("D stays", bench.part(3, 8), 1);
        due("X stays", bench.count(3), 1);
        due("BACK stays", bench.count(1), 1);
    }

    /** One behind the other: X goes on; it is as it was ahead behind all of them. */
    private static void trialsInARow() {
        for (int seed : new int[] {0, 1, 77, 65535}) {
            long x = seed;
            int above = 0;
            BladesBench bench = new BladesBench();
            bench.seed(seed);
            // B is above 0, 0 or below 0 as Y of the second PLACE is: y INNER it is twice that.
            book(bench, "C=y.B;D=9999*9999*C");
            int faults = 0;
            for (int n = 1; n <= 20; n++) {
                int y = 0;
                for (int coordinate = 0; coordinate < 4; coordinate++) {
                    x = (25173 * x + 13849) % 65536;
                    y = (int) (x % 21) - 10;
                }
                if (y != 0) faults++;
                if (y == 0) above++;
                due("FAULTS in " + n, bench.trials(2, n, 2, -1), faults);
                due("0 in " + n, bench.trials(2, n, 3, 0), above);
                due("X is as it was", bench.count(3), seed);
            }
        }
    }

    // ---- promises 33, 35, 36: BACK, KEPT, UNDONE

    private static void backs() {
        for (int done = 0; done <= 12; done++) {
            BladesBench bench = new BladesBench();
            for (int n = 1; n <= done; n++) work(bench, "A=" + n);
            int there = Math.min(done, 8);
            due("there are", bench.count(1), there);
            for (int left = there - 1; left >= 0; left--) {
                due("back", bench.back(), left);
                due("there are", bench.count(1), left);
                int a = done - there + left;
                due("A", bench.part(0, 0), a == 0 ? NO_PART : a);
            }
            due("none", bench.back(), NONE);
            due("none again", bench.back(), NONE);
            due("A stays", bench.part(0, 0), done > 8 ? done - 8 : NO_PART);
            work(bench, "A=99");
            due("one again", bench.back(), 0);
        }
        BladesBench bench = new BladesBench();
        for (int n = 0; n < 20; n++) {
            work(bench, "A=" + n);
            work(bench, "A=77");
            due("back", bench.back(), Math.min(n + 1, 7));
            due("A", bench.part(0, 0), n);
        }
    }

    /** What was done, and only that: WORK, run(), drop(), draws(); no FAULT, no refused call, no TRIAL, no back(). */
    private static void backOfEach() {
        BladesBench bench = new BladesBench();
        work(bench, "A=1;B=2");
        book(bench, "C=A");
        due("run", bench.run(), 1);
        due("drop", bench.drop(0), true);
        due("draws", bench.draws(2), 3);
        due("four", bench.count(1), 4);
        work(bench, "D=$");
        bench.run();
        bench.drop(0);
        bench.draws(0);
        bench.drop(7);
        bench.trials(1, 5, 0, 2);
        bench.keep();
        bench.seed(5);
        bench.check(0);
        due("run and drop were done", bench.count(1), 6);
        due("back", bench.back(), 5);
        due("letters", bench.letters(0), 7);
        due("C of the run", bench.part(2, 8), bench.part(0, 8));
        due("back", bench.back(), 4);
        due("C ahead of it", bench.part(2, 0), 1);
        due("back", bench.back(), 3);
        due("letters ahead of draws", bench.letters(0), 6);
        due("B ahead of draws", bench.part(1, 0), 2);
        due("back", bench.back(), 2);
        due("letters ahead of drop", bench.letters(0), 7);
        due("back", bench.back(), 1);
        due("letters ahead of run", bench.letters(0), 3);
        due("back", bench.back(), 0);
        due("letters ahead of WORK", bench.letters(0), 0);
        due("X stays", bench.count(3), 5);
        due("THE BOOK stays", bench.run(), -7002);
    }

    private static void keeps() {
        BladesBench bench = new BladesBench();
        due("nothing was KEPT", bench.undo(), false);
        due("keep", bench.keep(), 0);
        due("undo", bench.undo(), true);
        bench = full("x");
        due("keep twelve", bench.keep(), 12);
        bench.drop(0);
        due("keep eleven", bench.keep(), 11);
        due("keep leaves BACK", bench.count(1), 2);
        bench.back();
        due("twelve", bench.count(0), 12);
        bench.seed(9);
        due("undo", bench.undo(), true);
        due("KEPT last", bench.letters(0), 4094);
        due("X as KEPT", bench.count(3), 1);
        due("undo forgets all", bench.count(1), 0);
        due("undo forgets all", bench.back(), NONE);
        due("undo again", bench.undo(), true);
        work(bench, "A=@1,2;B=A;C=7");
        book(bench, "D=1");
        bench.feed(1, 2, 3, 4, 5);
        bench.draws(6);
        due("undo", bench.undo(), true);
        due("each as KEPT", bench.letters(3), 4094);
        due("the tape stays", bench.count(2), 20);
        due("none to take BACK", bench.count(1), 0);
        due("THE BOOK stays", bench.run(), 1);
        due("X as KEPT", bench.count(3), 1);
        bench.draws(1);
        due("D is done", bench.back(), 1);
        due("keep does not change", bench.keep(), 11);
        due("D", bench.part(3, 0), 1);
    }

    // ---- promises 37 and 38: check, count

    private static void checks() {
        String text = "A=@0,0;B=@0,0-f;C=f;D=x;E=#x;F=w;G=1+x*y;H=1+x;I=0;J=3";
        int[] kinds = {2, 3, 5, 6, 16, 30, 40, 42, 0, 1, 255, 255};
        BladesBench bench = made(text);
        for (int n = 0; n <= 12; n++) {
            due("right up to " + n, check(bench, java.util.Arrays.copyOf(kinds, n)), NONE);
            due("the tape is empty", bench.count(2), 0);
        }
        for (int at = 0; at < 12; at++) {
            for (int unlike : new int[] {-1, 1}) {
                int[] wrong = kinds.clone();
                wrong[at] += unlike;
                due("not so", check(bench, wrong), at);
                for (int behind = at + 1; behind < 12; behind++) wrong[behind] = 99;
                due("the first", check(bench, wrong), at);
            }
        }
        bench = made(text);
        due("check 1 of none", bench.check(1), -2);
        due("check 0 of none", bench.check(0), NONE);
        bench.feed(0x02030506, 0x101e282a, 0x0001ffff, 0xffffffff, 0);
        for (int n : new int[] {-1, 13, 20, 21, 121, Integer.MIN_VALUE, Integer.MAX_VALUE}) {
            due("check " + n, bench.check(n), -2);
            due("the tape stays", bench.count(2), 20);
        }
        due("check 12", bench.check(12), NONE);
        due("check 12 of none", bench.check(12), -2);
        due("255 is none, not a KIND", check(new BladesBench(), 255), NONE);
        due("0 is not none", check(new BladesBench(), 0), 0);
        due("none is not 0", check(made("A=0"), 255), 0);
    }

    private static void counts() {
        BladesBench bench = new BladesBench();
        for (int letter = 0; letter < 12; letter++) {
            due("letters", bench.count(0), letter);
            work(bench, (char) ('A' + letter) + "=0");
            due("to take BACK", bench.count(1), Math.min(letter + 1, 8));
        }
        due("letters", bench.count(0), 12);
        for (int what : new int[] {-1, 4, 5, Integer.MIN_VALUE, Integer.MAX_VALUE}) due("count", bench.count(what), NONE);
    }

    // ---- of several reasons NONE comes first

    private static void noneComesFirst() {
        BladesBench bench = made("A=1;B=0;C=x;D=@0,0");
        due("trials: no BOOK, no such drawn", bench.trials(7, 1, 0, 0), NONE);
        due("trials: no BOOK, no such n", bench.trials(0, 21, 0, 0), NONE);
        due("trials: no BOOK, no such n", bench.trials(0, 0, 0, 0), NONE);
        due("trials: no BOOK, no such letter", bench.trials(0, 1, 12, 0), NONE);
        due("trials: no BOOK, no such kind", bench.trials(0, 1, 0, 43), NONE);
        due("trials: no BOOK", bench.trials(0, 1, 0, -1), -2);
        due("formIs: no MOTION, no such what", bench.formIs(3, 5), NONE);
        due("on: another KIND, u", bench.on(0, 100, 0), NONE);
        due("on: another KIND, v", bench.on(0, 0, -100), NONE);
        due("row: another KIND, v", bench.row(0, 100), NONE);
        due("stand: no MIRROR, stands for none", bench.stand(0, 5), NONE);
        due("stand: stands for none, no MIRROR", bench.stand(5, 0), NONE);
        due("bundle: no MIRROR, stands for none", bench.bundle(0, 2, 5), NONE);
        due("bundle: no MIRROR, stands for none", bench.bundle(0, 5, 2), NONE);
        due("bundle: stands for none, no MIRROR", bench.bundle(5, 0, 0), NONE);
        due("group: no MOTION, stands for none", bench.group(2 + 32), NONE);
        due("group: no MOTION, too many", bench.group(2 + 4096), NONE);
        due("like: 0, stands for none", bench.like(1, 5), NONE);
        due("like: stands for none, 0", bench.like(5, 1), NONE);
        due("lies: no POINT, stands for none", bench.lies(0, 5), NONE);
        due("lies: stands for none, no OBJECT", bench.lies(5, 0), NONE);
        due("brought: no MIRROR, stands for none", bench.brought(2, 5, 1), NONE);
        due("brought: no MIRROR, stands for none", bench.brought(5, 2, 1), NONE);
        due("brought: no MIRROR, a set with one that stands for none", bench.brought(2, 3, 1 + 32), NONE);
        due("come: no MIRROR, n", bench.come(2, 1, 4), NONE);
        due("come: no MIRROR, n", bench.come(2, 1, -1), NONE);
        due("come: no MIRROR, stands for none", bench.come(5, 1, 1), NONE);
        due("come: no MIRROR, a set with one that stands for none", bench.come(2, 1 + 32, 1), NONE);
        BladesBench seven = full("1");
        due("group: seven", seven.group(127), NONE);
        due("brought: no MIRROR, seven", seven.brought(0, 1, 127), NONE);
        due("come: no MIRROR, seven", seven.come(0, 127, 1), NONE);
        due("brought: itself, no MIRROR", seven.brought(0, 0, 1), -3);
        due("come: no TURNS, no MIRROR", seven.come(0, 1, 0), -3);
    }

    // ---- what stays as it was

    /** Two POINTS and two others, KEPT, a BOOK, three to take BACK, X 4711, twenty bytes on the tape. */
    private static BladesBench rich() {
        BladesBench bench = made("A=@1,2;B=x;C=7;D=@3,4");
        bench.seed(4711);
        bench.keep();
        bench.draws(2);
        bench.drop(2);
        work(bench, "E=A^B;A=0");
        book(bench, "F=B;B=x+y;L=5");
        lay(bench, "A=9;B=8;C=7");
        return bench;
    }

    /** All that can be seen of a bench in the end, by calls that change it too. */
    private static List<Long> seen(BladesBench bench) {
        List<Long> seen = new ArrayList<>();
        look(bench, seen);
        seen.add((long) bench.trials(2, 9, 1, 6));
        seen.add((long) bench.run());
        look(bench, seen);
        for (int n = 0; n < 5; n++) {
            seen.add((long) bench.back());
            look(bench, seen);
        }
        seen.add((long) bench.draws(1));
        look(bench, seen);
        seen.add(bench.undo() ? 1L : 0L);
        look(bench, seen);
        return seen;
    }

    private static void look(BladesBench bench, List<Long> seen) {
        for (int what = 0; what < 4; what++) seen.add((long) bench.count(what));
        seen.add((long) bench.letters(0));
        for (int letter = 0; letter < 12; letter++) {
            if (bench.formIs(letter, 4) > 0) {
                for (int part : new int[] {0, 1, 2, 8}) seen.add((long) bench.part(letter, part));
            }
        }
    }

    private static void stays(String name, long want, Call call) {
        BladesBench touched = rich();
        due(name, call.of(touched), want);
        due("all is as it was behind " + name, seen(touched).equals(seen(rich())), true);
    }

    private static void refusalsChangeNothing() {
        stays("work 0", NONE, bench -> bench.work(0));
        stays("work 21", NONE, bench -> bench.work(21));
        stays("work 121", NONE, bench -> bench.work(121));
        stays("book -1", NONE, bench -> bench.book(-1));
        stays("book 21", NONE, bench -> bench.book(21));
        stays("book 121", NONE, bench -> bench.book(121));
        stays("check -1", -2, bench -> bench.check(-1));
        stays("check 13", -2, bench -> bench.check(13));
        stays("drop 2", 0, bench -> bench.drop(2) ? 1 : 0);
        stays("drop 12", 0, bench -> bench.drop(12) ? 1 : 0);
        stays("draws 0", NONE, bench -> bench.draws(0));
        stays("draws 7", NONE, bench -> bench.draws(7));
        stays("seed -1", 0, bench -> bench.seed(-1) ? 1 : 0);
        stays("seed 65536", 0, bench -> bench.seed(65536) ? 1 : 0);
        stays("trials 7", NONE, bench -> bench.trials(7, 1, 0, 0));
        stays("trials 0", NONE, bench -> bench.trials(1, 0, 0, 0));
        stays("trials 21", NONE, bench -> bench.trials(6, 21, 0, 0));
        stays("trials 12", NONE, bench -> bench.trials(6, 20, 12, 0));
        stays("trials 43", NONE, bench -> bench.trials(6, 20, 0, 43));
        stays("trials", 0, bench -> bench.trials(6, 20, 5, 6));
        stays("trials", 20, bench -> bench.trials(6, 20, 5, 2));
        stays("FAULTS", 0, bench -> bench.trials(0, 20, 5, -1));
        stays("no POINT in 20 TRIALS", 0, bench -> bench.trials(0, 20, 1, 2));
        stays("like", -2, bench -> bench.like(0, 1));
        stays("group", -3, bench -> bench.group(1));
        stays("brought", -3, bench -> bench.brought(1, 3, 8));
        stays("come", -3, bench -> bench.come(1, 8, 3));
        full140();
        // A FAULT empties the tape, and changes nothing else; so does a call that is refused where this is told.
        BladesBench faulty = rich();
        due("a FAULT", faulty.work(12), -1011);
        BladesBench empty = rich();
        due("check 0", empty.check(0), NONE);
        due("all but the tape", seen(faulty).equals(seen(empty)), true);
        BladesBench fresh = new BladesBench();
        due("undo of nothing", fresh.undo(), false);
        due("back of nothing", fresh.back(), NONE);
        due("run of nothing", fresh.run(), -2);
        due("trials of nothing", fresh.trials(6, 20, 0, 2), -2);
        due("all is as it was", seen(fresh).equals(seen(new BladesBench())), true);
    }

    private static void full140() {
        BladesBench one = rich();
        BladesBench other = rich();
        for (int fed = 0; fed < 6; fed++) {
            one.feed(0, 0, 0, 0, 0);
            other.feed(0, 0, 0, 0, 0);
        }
        due("feed beyond 140", one.feed(1, 1, 1, 1, 1), NONE);
        due("work what is there", one.work(11), other.work(11));
        due("all is as it was", seen(one).equals(seen(other)), true);
    }

    private static void questionsChangeNothing() {
        stays("letters", 31 - 4, bench -> bench.letters(0));
        stays("part", 0, bench -> bench.part(0, 0));
        stays("middle", 1, bench -> bench.middle(3, 2));
        stays("product", 1, bench -> bench.product(0, 3, 3, 0) == 0 ? 1 : 0);
        stays("whole", 1, bench -> bench.whole(1));
        stays("pair", OTHER_KIND, bench -> bench.pair(0, 5));
        stays("meetings", 0, bench -> bench.meetings(2));
        stays("rank", 2, bench -> bench.rank(2 + 8));
        stays("order", -3, bench -> bench.formIs(3, 3));
        stays("meetings", -2, bench -> bench.meetings(4));
    }

    /** 512 calls at most: the last of them is answered as the first. */
    private static void theLastCall() {
        BladesBench bench = made("A=@0,0-25*f");
        for (int call = 2; call < 511; call++) due("whole " + call, bench.whole(0), 12);
        due("the last", bench.row(0, 5), 1 << 15);
        BladesBench drawing = new BladesBench();
        for (int call = 0; call < 511; call++) due("draws " + call, drawing.draws(6), 6);
        due("the last", drawing.count(1), 8);
        BladesBench working = new BladesBench();
        for (int call = 0; call < 255; call++) due("work " + call, work(working, "A=" + call), 1);
        due("the last but one", working.back(), 7);
        due("the last", working.part(0, 0), 253);
    }
}
