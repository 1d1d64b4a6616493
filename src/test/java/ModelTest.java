/** Long drawn runs of calls, always the same ones: the class and the model answer alike. */
public final class ModelTest {
    private static final int RUNS = 400;
    private static final int CALLS = 512;
    private static int wrong = 0;

    /** Numbers that follow from the run's number alone. */
    private static final class Draws {
        private long state;

        Draws(int run) {
            state = run * 0x9e3779b97f4a7c15L + 1;
        }

        int nextInt() {
            state = state * 6364136223846793005L + 1442695040888963407L;
            return (int) (state >>> 32);
        }

        int nextInt(int below) {
            return (nextInt() >>> 1) % below;
        }
    }

    private final Draws random;
    private final int run;
    private final BladesBench bench = new BladesBench();
    private final Model model = new Model();

    private ModelTest(int run) {
        this.run = run;
        random = new Draws(run);
    }

    public static void main(String[] args) {
        int runs = args.length > 0 ? Integer.parseInt(args[0]) : RUNS;
        int first = args.length > 1 ? Integer.parseInt(args[1]) : 0;
        for (int run = first; run < first + runs && wrong < 20; run++) new ModelTest(run).calls();
        System.out.println(wrong == 0 ? runs + " drawn runs: all answers as the model's" : wrong + " answers unlike");
        if (wrong != 0) System.exit(1);
    }

    private void calls() {
        for (int left = CALLS; left > 0 && wrong < 20; ) left -= call();
    }

    private void same(String call, long got, long want) {
        if (got == want) return;
        wrong++;
        System.out.println("run " + run + ": " + call + " answered " + got + ", the model " + want);
    }

    private boolean chance(int percent) {
        return random.nextInt(100) < percent;
    }

    /** Mostly within the limits, now and then just beyond or far off. */
    private int number(int low, int high) {
        if (chance(97)) return low + random.nextInt(high - low + 1);
        if (chance(50)) return chance(50) ? low - 1 : high + 1;
        return random.nextInt();
    }

    private int letter() {
        return number(0, 11);
    }

    private int bits(int most) {
        if (chance(5)) return random.nextInt(9000) - 10;
        int told = model.letters(chance(50) ? 0 : 3 + random.nextInt(2));
        int bits = 0;
        for (int tries = 0; tries < 40 && Integer.bitCount(bits) < 1 + random.nextInt(most); tries++) {
            bits |= told & 1 << random.nextInt(12);
        }
        return bits;
    }

    private int letterOf(int what) {
        int bits = model.letters(what);
        for (int tries = 0; tries < 30; tries++) {
            int letter = random.nextInt(12);
            if ((bits >> letter & 1) != 0) return letter;
        }
        return letter();
    }

    private int coordinate() {
        return chance(70) ? random.nextInt(11) - 5 : number(-99, 99);
    }

    private int textFed(String text) {
        int calls = 0;
        for (int at = 0; at < text.length(); at += 20) {
            int[] words = new int[5];
            for (int i = 0; i < 20; i++) {
                int sign = at + i < text.length() ? text.charAt(at + i) : 'a';
                words[i / 4] = words[i / 4] << 8 | sign;
            }
            same("feed", bench.feed(words[0], words[1], words[2], words[3], words[4]),
                model.feed(words[0], words[1], words[2], words[3], words[4]));
            calls++;
        }
        return calls;
    }

    private int call() {
        switch (random.nextInt(48)) {
            case 0: case 1: case 2: case 3: case 4: case 5: case 6: case 7: case 8: case 9: return works();
            case 10: return drops();
            case 11: return draws();
            case 12: return parts();
            case 13: return letters();
            case 14: case 15: return forms();
            case 16: return middles();
            case 17: return lines();
            case 18: return ons();
            case 19: return products();
            case 20: return cosines();
            case 21: return distances();
            case 22: return pairs();
            case 23: return powers();
            case 24: return stands();
            case 25: return bundles();
            case 26: return groups();
            case 27: return ranks();
            case 28: return rows();
            case 29: return wholes();
            case 30: return books();
            case 31: return runs();
            case 32: return trials();
            case 33: return likes();
            case 34: return lies();
            case 35: case 36: return meetings();
            case 37: return turneds();
            case 38: return bringses();
            case 39: return broughts();
            case 40: return comes();
            case 41: return backs();
            case 42: return seeds();
            case 43: return keeps();
            case 44: return undos();
            case 45: return checks();
            case 46: return counts();
            default: return junk();
        }
    }

    private int works() {
        String text = text();
        int fed = textFed(text);
        int n = chance(97) ? text.length() : number(0, 125);
        same("work " + text + " of " + n, bench.work(n), model.work(n));
        return fed + 1;
    }

    private int drops() {
        int letter = letter();
        same("drop " + letter, bench.drop(letter) ? 1 : 0, model.drop(letter) ? 1 : 0);
        return 1;
    }

    private int draws() {
        int n = number(1, 6);
        same("draws " + n, bench.draws(n), model.draws(n));
        return 1;
    }

    private int parts() {
        int letter = letter();
        for (int part = -1; part <= 16; part++) same("part " + letter + " " + part, bench.part(letter, part), model.part(letter, part));
        return 18;
    }

    private int letters() {
        for (int what = -1; what <= 5; what++) same("letters " + what, bench.letters(what), model.letters(what));
        return 7;
    }

    private int forms() {
        int letter = chance(50) ? letterOf(4) : letter();
        for (int what = -1; what <= 5; what++) same("formIs " + letter + " " + what, bench.formIs(letter, what), model.formIs(letter, what));
        return 7;
    }

    private int middles() {
        int letter = letterOf(2);
        for (int what = -1; what <= 5; what++) same("middle " + letter + " " + what, bench.middle(letter, what), model.middle(letter, what));
        return 7;
    }

    private int lines() {
        int letter = letterOf(2);
        for (int what = -1; what <= 3; what++) same("line " + letter + " " + what, bench.line(letter, what), model.line(letter, what));
        return 5;
    }

    private int ons() {
        int letter = letter();
        int u = coordinate();
        int v = coordinate();
        same("on " + letter + " " + u + " " + v, bench.on(letter, u, v), model.on(letter, u, v));
        return 1;
    }

    private int products() {
        int kind = number(0, 3);
        int one = letter();
        int other = letter();
        for (int part = -1; part <= 16; part++) {
            same("product " + kind + " " + one + " " + other + " " + part,
                bench.product(kind, one, other, part), model.product(kind, one, other, part));
        }
        return 18;
    }

    private int cosines() {
        int one = letterOf(2);
        int other = letterOf(3);
        for (int what = -1; what <= 2; what++) {
            same("cosine " + one + " " + other + " " + what, bench.cosine(one, other, what), model.cosine(one, other, what));
        }
        return 4;
    }

    private int distances() {
        int one = letterOf(1);
        int other = letterOf(1);
        for (int what = -1; what <= 2; what++) {
            same("distance " + one + " " + other + " " + what, bench.distance(one, other, what), model.distance(one, other, what));
        }
        return 4;
    }

    private int pairs() {
        int letter = letter();
        for (int tries = 0; tries < 20 && model.pair(letter, 0) <= -2_000_000_000_000_000_000L; tries++) letter = letter();
        int first = number(0, 10);
        same("pair " + letter + " " + first, bench.pair(letter, first), model.pair(letter, first));
        for (int what = -1; what <= 11; what++) same("pair " + letter + " " + what, bench.pair(letter, what), model.pair(letter, what));
        return 14;
    }

    private int powers() {
        int letter = letterOf(2);
        int u = coordinate();
        int v = coordinate();
        for (int what = -1; what <= 2; what++) {
            same("power " + letter + " " + u + " " + v + " " + what, bench.power(letter, u, v, what), model.power(letter, u, v, what));
        }
        return 4;
    }

    private int stands() {
        int one = letterOf(3);
        int other = letterOf(3);
        same("stand " + one + " " + other, bench.stand(one, other), model.stand(one, other));
        return 1;
    }

    private int bundles() {
        int one = letterOf(3);
        int other = letterOf(3);
        int third = letterOf(3);
        same("bundle " + one + " " + other + " " + third, bench.bundle(one, other, third), model.bundle(one, other, third));
        return 1;
    }

    private int groups() {
        int bits = chance(50) ? bits(2) : bits(6);
        same("group " + bits, bench.group(bits), model.group(bits));
        return 1;
    }

    private int ranks() {
        int bits = bits(12);
        same("rank " + bits, bench.rank(bits), model.rank(bits));
        return 1;
    }

    private int rows() {
        int letter = letter();
        int v = coordinate();
        same("row " + letter + " " + v, bench.row(letter, v), model.row(letter, v));
        return 1;
    }

    private int wholes() {
        if (chance(90)) return 1;
        int letter = letterOf(2);
        same("whole " + letter, bench.whole(letter), model.whole(letter));
        return 1;
    }

    private int books() {
        String text = chance(10) ? "" : text();
        int fed = textFed(text);
        int n = chance(95) ? text.length() : number(0, 125);
        same("book " + text + " of " + n, bench.book(n), model.book(n));
        return fed + 1;
    }

    private int runs() {
        same("run", bench.run(), model.run());
        return 1;
    }

    private int trials() {
        int drawn = number(0, 6);
        int n = number(1, 20);
        int letter = letter();
        int[] likely = {-1, 2, 3, 6, 8, 12, 13, 16, 20, 21, 22, 40, 41};
        for (int i = 0; i < 4; i++) {
            int kind = chance(80) ? likely[random.nextInt(likely.length)] : number(-1, 42);
            same("trials " + drawn + " " + n + " " + letter + " " + kind,
                bench.trials(drawn, n, letter, kind), model.trials(drawn, n, letter, kind));
        }
        same("count 3", bench.count(3), model.count(3));
        return 5;
    }

    private int likes() {
        int one = letter();
        int other = letter();
        same("like " + one + " " + other, bench.like(one, other), model.like(one, other));
        return 1;
    }

    private int lies() {
        int one = letterOf(1);
        int other = letterOf(2);
        same("lies " + one + " " + other, bench.lies(one, other), model.lies(one, other));
        return 1;
    }

    private int meetings() {
        for (int what = -1; what <= 5; what++) same("meetings " + what, bench.meetings(what), model.meetings(what));
        return 7;
    }

    private int turneds() {
        int letter = letter();
        int mirror = letterOf(3);
        for (int part = -1; part <= 16; part++) {
            same("turned " + letter + " " + mirror + " " + part, bench.turned(letter, mirror, part), model.turned(letter, mirror, part));
        }
        return 18;
    }

    private int bringses() {
        int letter = letterOf(4);
        int u = coordinate();
        int v = coordinate();
        for (int what = -1; what <= 3; what++) {
            same("brings " + letter + " " + u + " " + v + " " + what, bench.brings(letter, u, v, what), model.brings(letter, u, v, what));
        }
        return 5;
    }

    private int broughts() {
        int one = letter();
        int other = letter();
        int bits = bits(6);
        same("brought " + one + " " + other + " " + bits, bench.brought(one, other, bits), model.brought(one, other, bits));
        return 1;
    }

    private int comes() {
        int letter = letter();
        int bits = bits(6);
        int n = number(0, 3);
        same("come " + letter + " " + bits + " " + n, bench.come(letter, bits, n), model.come(letter, bits, n));
        return 1;
    }

    private int backs() {
        same("back", bench.back(), model.back());
        return 1;
    }

    private int seeds() {
        int x = number(0, 65535);
        same("seed " + x, bench.seed(x) ? 1 : 0, model.seed(x) ? 1 : 0);
        return 1;
    }

    private int keeps() {
        same("keep", bench.keep(), model.keep());
        return 1;
    }

    private int undos() {
        same("undo", bench.undo() ? 1 : 0, model.undo() ? 1 : 0);
        return 1;
    }

    private int checks() {
        StringBuilder kinds = new StringBuilder();
        for (int letter = 0; letter < 12; letter++) {
            int kind = model.formIs(letter, 0);
            kinds.append((char) (chance(3) ? random.nextInt(256) : kind & 255));
        }
        int fed = textFed(kinds.toString());
        int n = number(0, 12);
        same("check " + n, bench.check(n), model.check(n));
        return fed + 1;
    }

    private int counts() {
        for (int what = -1; what <= 4; what++) same("count " + what, bench.count(what), model.count(what));
        return 6;
    }

    private int junk() {
        int a = random.nextInt();
        int b = random.nextInt();
        same("feed", bench.feed(a, b, a, b, a), model.feed(a, b, a, b, a));
        int n = number(0, 20);
        same("work of junk", bench.work(n), model.work(n));
        return 2;
    }

    // ---- texts

    private String text() {
        StringBuilder text = new StringBuilder();
        int steps = chance(4) ? 12 + random.nextInt(3) : 1 + random.nextInt(6);
        for (int step = 0; step < steps; step++) {
            if (step > 0) text.append(';');
            text.append((char) ('A' + random.nextInt(12))).append('=');
            text.append(steps > 11 ? "1" : expression(2));
        }
        while (chance(12)) spoil(text);
        if (text.length() == 0) text.append('A');
        if (text.length() > 120) text.setLength(120);
        return text.toString();
    }

    private void spoil(StringBuilder text) {
        String signs = "ABCLMxypmwf@~#!-g0123456789()+*^.&>;=, a";
        int at = random.nextInt(text.length() + 1);
        char sign = signs.charAt(random.nextInt(signs.length()));
        if (chance(40)) text.insert(at, sign);
        else if (at < text.length() && chance(50)) text.setCharAt(at, sign);
        else if (at < text.length() && chance(80)) text.deleteCharAt(at);
        else text.setLength(at);
    }

    private String place() {
        int reach = chance(80) ? 6 : 99;
        String u = String.valueOf(random.nextInt(2 * reach + 1) - reach);
        String v = String.valueOf(random.nextInt(2 * reach + 1) - reach);
        return "@" + u + "," + v;
    }

    private String vector() {
        switch (random.nextInt(6)) {
            case 0: return "#(" + place() + "^" + place() + "^f)";
            case 1: return "(" + random.nextInt(5) + "*x+" + random.nextInt(5) + "*y-" + random.nextInt(4) + "*f)";
            case 2: return "(" + place() + "-" + random.nextInt(20) + "*f)";
            case 3: return "(" + place() + "+" + random.nextInt(20) + "*f)";
            case 4: return chance(50) ? "x" : chance(50) ? "y" : "p";
            default: return "#(" + place() + "^" + place() + "^" + place() + ")";
        }
    }

    private String expression(int depth) {
        switch (random.nextInt(20)) {
            case 0: case 1: return place();
            case 2: return place() + "^" + place();
            case 3: return place() + "^" + place() + "^" + place();
            case 4: return place() + "^" + place() + "^f";
            case 5: case 6: return vector();
            case 7: return vector() + "*" + vector();
            case 8: return "!" + vector() + "*!" + vector();
            case 9: return old() + ">" + (chance(50) ? place() : old());
            case 10: return old() + "&" + old();
            case 11: return place() + "^f";
            case 12: return old() + sign() + old();
            case 13: return "!(" + old() + sign() + old() + ")";
            case 14: return (chance(50) ? "1+" : "1-") + (chance(50) ? "x*y" : "x*f");
            case 15: return String.valueOf(random.nextInt(10000)) + sign() + old();
            default: return any(depth);
        }
    }

    private String sign() {
        return String.valueOf("*^.&>+-".charAt(random.nextInt(7)));
    }

    /** A LETTER that stands for a FORM, most times. */
    private String old() {
        return String.valueOf((char) ('A' + Math.max(0, Math.min(11, letterOf(0)))));
    }

    private String any(int depth) {
        StringBuilder text = new StringBuilder(factor(depth));
        for (int more = random.nextInt(3); more > 0; more--) text.append(sign()).append(factor(depth));
        return text.toString();
    }

    private String factor(int depth) {
        switch (random.nextInt(depth > 0 ? 16 : 8)) {
            case 0: case 1: return old();
            case 2: return String.valueOf(random.nextInt(chance(80) ? 12 : 10000));
            case 3: return place();
            case 4: return String.valueOf("xypmwf".charAt(random.nextInt(6)));
            case 5: return vector();
            case 6: return "f";
            case 7: return "(" + place() + "^" + place() + ")";
            case 8: return "~" + factor(depth - 1);
            case 9: return "#" + factor(depth - 1);
            case 10: return "!" + factor(depth - 1);
            case 11: return "-" + factor(depth - 1);
            case 12: return "g" + random.nextInt(chance(90) ? 5 : 10) + factor(depth - 1);
            case 13: return "-~#!(" + factor(depth - 1) + ")";
            default: return "(" + any(depth - 1) + ")";
        }
    }
}
