import java.lang.management.ManagementFactory;

/**
 * The room: 512 calls of each kind, the dearest arguments at hand, may make next to nothing, and no object costs much.
 * All calls of one run share some 600,000 objects and 7.3 million elements.
 */
public final class RoomTest {
    private static final int CALLS = 512;
    private static final long MOST_BYTES_A_CALL = 64;
    private static final long MOST_BYTES_AN_OBJECT = 200_000;
    private static int wrong = 0;
    private static long sink = 0;
    private static final com.sun.management.ThreadMXBean MEMORY =
        (com.sun.management.ThreadMXBean) ManagementFactory.getThreadMXBean();

    public static void main(String[] args) {
        long before = MEMORY.getCurrentThreadAllocatedBytes();
        BladesBench bench = new BladesBench();
        long made = MEMORY.getCurrentThreadAllocatedBytes() - before;
        if (made > MOST_BYTES_AN_OBJECT) fail("a new object", made);
        prepare(bench);
        for (int kind = 0; kind < 22; kind++) measure(bench, kind);
        System.out.println(wrong == 0 ? "an object takes " + made + " bytes, its calls next to none" : wrong + " calls take room");
        if (sink == 42 || wrong != 0) System.exit(1);
    }

    private static void fail(String what, long bytes) {
        wrong++;
        System.out.println(what + " takes " + bytes + " bytes");
    }

    private static void lay(BladesBench bench, String text) {
        for (int at = 0; at < text.length(); at += 20) {
            int[] words = new int[5];
            for (int i = 0; i < 20 && at + i < text.length(); i++) words[i / 4] |= text.charAt(at + i) << 24 - i % 4 * 8;
            bench.feed(words[0], words[1], words[2], words[3], words[4]);
        }
    }

    private static void prepare(BladesBench bench) {
        String text = "A=x;B=x-f;C=y;D=y-2*f;E=@0,0-f;F=@1,2-3*f;G=@5,3;H=@1,1;I=1+x*f;J=#(y^(@0,0-4*f));K=@0,1;L=1+x*y";
        lay(bench, text);
        if (bench.work(text.length()) != 12) fail("the test's own text", -1);
        StringBuilder book = new StringBuilder("A=x");
        while (book.length() < 118) book.append(">G");
        lay(bench, book.toString());
        bench.book(book.length());
        bench.keep();
    }

    private static void measure(BladesBench bench, int kind) {
        long before = MEMORY.getCurrentThreadAllocatedBytes();
        for (int call = 0; call < CALLS; call++) sink += call(bench, kind, call);
        long bytes = MEMORY.getCurrentThreadAllocatedBytes() - before;
        if (bytes > CALLS * MOST_BYTES_A_CALL) fail(CALLS + " calls of kind " + kind, bytes);
    }

    private static long call(BladesBench bench, int kind, int call) {
        switch (kind) {
            case 0: return bench.feed(call, 1, 2, 3, 4) + bench.work(120) + bench.book(-1);
            case 1: return bench.run();
            case 2: return bench.trials(6, 20, 0, call % 44 - 1);
            case 3: return bench.group(256);
            case 4: return bench.group(63);
            case 5: return bench.come(6, 63, 3);
            case 6: return bench.brought(6, 7, 63);
            case 7: return bench.meetings(call % 5);
            case 8: return bench.whole(4);
            case 9: return bench.row(9, 0);
            case 10: return bench.rank(4095);
            case 11: return bench.letters(4);
            case 12: return bench.formIs(11, 3);
            case 13: return bench.draws(6) + bench.back();
            case 14: return bench.keep() + (bench.undo() ? 1 : 0);
            case 15: return bench.pair(9, call % 11);
            case 16: return bench.power(4, 1, 2, call % 2) + bench.cosine(0, 4, 0) + bench.distance(6, 7, 0);
            case 17: return bench.stand(0, 4) + bench.bundle(0, 2, 4) + bench.like(0, 1) + bench.lies(6, 0);
            case 18: return bench.turned(6, 4, 1) + bench.brings(11, 1, 2, 0) + bench.product(3, 0, 1, 15);
            case 19: return bench.middle(4, call % 5) + bench.line(0, call % 3) + bench.on(9, 1, 2) + bench.part(0, 1);
            case 20: return (bench.drop(11) ? 1 : 0) + bench.back() + (bench.seed(call) ? 1 : 0);
            default: return bench.check(12) + bench.count(call % 5) + bench.feed(1, 2, 3, 4, 5);
        }
    }
}
