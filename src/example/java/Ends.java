/** How BladesBench is used: a LINE through two POINTS, where it meets a CIRCLE, and where a MOTION brings a PLACE. */
public final class Ends {
    private static final int BYTES_A_FEED = 20;

    public static void main(String[] args) {
        BladesBench bench = new BladesBench();
        System.out.println("STEPS " + work(bench, "A=@0,0;B=@4,0;C=@0,4;D=A^B^f;E=A^B^C;F=D&E"));
        System.out.println("KINDS " + bench.formIs(3, 0) + " " + bench.formIs(4, 0) + " " + bench.formIs(5, 0));
        System.out.println("the CIRCLE's MIDDLE " + bench.middle(4, 0) + "," + bench.middle(4, 1)
            + " by " + bench.middle(4, 2) + ", SIZE " + bench.middle(4, 3) + " by " + bench.middle(4, 4));
        System.out.println("first END " + bench.pair(5, 5) + "," + bench.pair(5, 6) + " by " + bench.pair(5, 7));
        System.out.println("second END " + bench.pair(5, 8) + "," + bench.pair(5, 9) + " by " + bench.pair(5, 10));
        System.out.println("STEPS " + work(bench, "G=(x-y)*y"));
        System.out.println("ORDER " + bench.formIs(6, 3) + ", brings 1,0 to "
            + bench.brings(6, 1, 0, 0) + "," + bench.brings(6, 1, 0, 1));
        System.out.println("a FAULT " + work(bench, "A=x+L"));
    }

    /** Lays a TEXT on the empty tape, twenty bytes a call, and does it as WORK. */
    private static int work(BladesBench bench, String text) {
        for (int at = 0; at < text.length(); at += BYTES_A_FEED) {
            bench.feed(four(text, at), four(text, at + 4), four(text, at + 8), four(text, at + 12),
                four(text, at + 16));
        }
        return bench.work(text.length());
    }

    /** Four bytes of a TEXT, the first one highest; 0 behind its end. */
    private static int four(String text, int at) {
        int bytes = 0;
        for (int i = at; i < at + 4; i++) bytes = bytes << 8 | (i < text.length() ? text.charAt(i) : 0);
        return bytes;
    }
}
