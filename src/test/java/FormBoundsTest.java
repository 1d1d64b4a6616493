/**
 * The boundaries that the document names for FORMS: KINDS and who may be asked what, numbers at the BOUND and the
 * smaller limits of some calls, signs and lowest terms, each just inside and just outside. PARTS are told as they are:
 * a, b, c, d of x, y, p, m; 100,000,001 is 17 times 5,882,353 and also 10,000 squared and 1.
 */
public final class FormBoundsTest extends Asking {
    private static final int[] KINDS = {0, 1, 2, 3, 4, 5, 6, 8, 9, 12, 13, 14, 15, 16, 20, 21, 22, 30, 40, 41, 42};
    private static final String[] FORMS = {"0", "3", "@1,2", "@0,0-f", "@0,0+f", "f", "x+f", "x*f", "x*y+p*m", "#@1,2",
        "#(@0,0-f)", "#(@0,0+f)", "#f", "#x", "@0,0^@4,0", "@0,0^y", "#(y^(@0,0+f))", "w", "1+x*y", "x+x*y*p", "1+x"};
    private static final long[] FAR_ONE = vector(0, 0, 1, 1);

    public static void main(String[] args) {
        kindsOfGrades();
        kindsOfVectors();
        kindsOfPairs();
        whoIsWhat();
        whoHasWhat();
        whoMayMirror();
        whoMayLie();
        dualsAnswerAlike();
        unitsTable();
        reverses();
        normals();
        sixtyFourBits();
        motions();
        orders();
        middles();
        lines();
        cosines();
        distances();
        pairRoots();
        pairBounds();
        halves();
        powerLimits();
        stands();
        bundles();
        groups();
        ranks();
        ons();
        likes();
        meetings();
        fullest();
        turneds();
        brings();
        broughts();
        comes();
        close();
    }

    // ---- KINDS

    private static void kindsOfGrades() {
        String[] units = {"1", "x", "x*y", "x*y*p", "w"};
        for (int grades = 1; grades < 32; grades++) {
            StringBuilder text = new StringBuilder("A=0");
            for (int k = 0; k < 5; k++) if ((grades >> k & 1) != 0) text.append("+").append(units[k]);
            BladesBench bench = made(text.toString());
            due("grades of " + text, bench.formIs(0, 1), grades);
            due("parts of " + text, bench.formIs(0, 4), Integer.bitCount(grades));
            due("kind of " + text, bench.formIs(0, 0), kindOfGrades(grades));
        }
        due("no grades", made("A=0").formIs(0, 0), 0);
    }

    private static int kindOfGrades(int grades) {
        switch (grades) {
            case 1: return 1;
            case 2: return 6;
            case 4: return 22;
            case 8: return 14;
            case 16: return 30;
            case 10: return 41;
            default: return (grades & 10) == 0 ? 40 : 42;
        }
    }

    private static void kind(long[] form, int want) {
        due("kind of " + java.util.Arrays.toString(form), with(form).formIs(0, 0), want);
    }

    /** q = a a + b b + (c - d)(c + d), at 0 and just beside it; e = c - d, at 0 and just beside it. */
    private static void kindsOfVectors() {
        long[][] vectors = {
            vector(10_000, 0, 24_999_999, 25_000_001), vector(10_000, 0, 49_999_999, 50_000_000),
            vector(10_000, 0, 50_000_000, 50_000_001), vector(10_000, 1, 50_000_000, 50_000_001),
            vector(0, -10_000, -24_999_999, -25_000_001), vector(0, 0, 100_000_000, 99_999_999),
            vector(0, 0, 99_999_999, 100_000_000), vector(0, 0, 100_000_000, -99_999_999), vector(0, 0, 1, -1),
            vector(0, 0, -100_000_000, 100_000_000), vector(1, 0, 0, 1), vector(1, 1, 0, 1), vector(0, 0, 0, 1),
            vector(0, 0, 1, 0), vector(100_000_000, 100_000_000, 1, 0), vector(1, 0, 1, 1), vector(0, 1, 1, 1),
            vector(0, 0, 1, 1), vector(0, 0, 100_000_000, 100_000_000), vector(0, 0, -1, -1), vector(0, -1, 0, 0),
            vector(-1, 0, 0, 0), vector(1, 0, 100_000_000, 100_000_000), vector(3, 4, 12, 13), vector(3, 4, 12, -13),
            vector(3, 4, 12, 12), vector(3, 4, -12, 14)};
        int[] kinds = {2, 3, 4, 2, 2, 3, 4, 3, 2, 2, 2, 3, 4, 3, 3, 6, 6, 5, 5, 5, 6, 6, 6, 2, 2, 6, 4};
        for (int i = 0; i < vectors.length; i++) {
            kind(vectors[i], kinds[i]);
            kind(times(-1, vectors[i]), kinds[i]);
            kind(undual(vectors[i]), 10 + kinds[i]);
        }
    }

    /** Of x p, x m, p m: the square is - a a + b b + c c; it is ON THE FAR ONE if x p = x m. */
    private static void kindsOfPairs() {
        int most = 100_000_000;
        kind(form(5, most, 9, -most), 21);
        kind(form(5, most, 9, -most, 12, 1), 20);
        kind(form(3, 1, 5, most, 9, -most), 22);
        kind(form(5, most, 9, most), 8);
        kind(form(5, most, 9, most, 12, most), 8);
        kind(form(5, most, 9, most - 1), 22);
        kind(form(5, most - 1, 9, most), 20);
        kind(form(6, 7, 10, 7), 8);
        kind(form(6, 7, 10, 8), 20);
        kind(form(3, 1, 5, 1, 9, 1), 22);
        kind(form(3, 0, 12, 5), 8);
        kind(form(3, 1, 12, 1), 9);
        kind(form(3, 1, 12, -most), 9);
        kind(form(5, 1, 10, 1), 9);
        kind(form(5, 1, 10, 1, 6, 1, 9, 1), 8);
        kind(form(5, 1, 10, 1, 6, 1, 9, 2), 9);
        kind(form(3, 1), 22);
        kind(form(9, 1), 20);
        kind(form(5, 1), 22);
        kind(form(5, 3, 9, 5, 12, 4), 20);
        kind(form(3, 4, 5, 3, 9, 5), 21);
        kind(form(3, 4, 5, 3, 9, -5), 21);
        kind(form(3, 4, 5, 4, 9, 5), 22);
    }

    /** POINTS, OBJECTS, MIRRORS, MOTIONS, and what letters() and formIs() say of them. */
    private static void whoIsWhat() {
        for (int i = 0; i < KINDS.length; i++) {
            int kind = KINDS[i];
            BladesBench bench = made("D=" + FORMS[i]);
            due("kind of " + FORMS[i], bench.formIs(3, 0), kind);
            due("FORM " + kind, bench.letters(0), 8);
            due("POINT " + kind, bench.letters(1), kind == 2 ? 8 : 0);
            due("OBJECT " + kind, bench.letters(2), isObject(kind) ? 8 : 0);
            due("MIRROR " + kind, bench.letters(3), isMirror(kind) ? 8 : 0);
            due("MOTION " + kind, bench.letters(4), isMotion(kind) ? 8 : 0);
            due("MOTION " + kind, bench.formIs(3, 2), isMotion(kind) ? 1 : 0);
            due("ORDER " + kind, bench.formIs(3, 3) == -3, !isMotion(kind));
            due("GROUP " + kind, bench.group(8) == -3, !isMotion(kind));
            due("BRINGS " + kind, bench.brings(3, 3, 5, 2) == OTHER_KIND, !isMotion(kind));
        }
    }

    private static boolean isObject(int kind) {
        return kind >= 2 && kind <= 6 || kind >= 12 && kind <= 16;
    }

    private static boolean isMirror(int kind) {
        return kind == 3 || kind == 6 || kind == 13 || kind == 16;
    }

    private static boolean isMotion(int kind) {
        return kind == 1 || kind == 3 || kind == 4 || kind == 6 || kind == 40 || kind == 41;
    }

    private static boolean hasMiddle(int kind) {
        return kind >= 2 && kind <= 4 || kind >= 12 && kind <= 14;
    }

    private static void whoHasWhat() {
        for (int i = 0; i < KINDS.length; i++) {
            int kind = KINDS[i];
            BladesBench bench = made("A=" + FORMS[i]);
            for (int what = 0; what < 5; what++) {
                due("middle " + kind, bench.middle(0, what) == OTHER_KIND, !hasMiddle(kind));
            }
            for (int what = 0; what < 3; what++) {
                due("line " + kind, bench.line(0, what) == NO_PART, kind != 6 && kind != 16);
            }
            due("power " + kind, bench.power(0, 0, 0, 0) == OTHER_KIND, !hasMiddle(kind));
            boolean isPair = kind >= 20 && kind <= 22;
            for (int what = 0; what < 5; what++) {
                due("pair " + kind, bench.pair(0, what) == OTHER_KIND, !isPair);
            }
            for (int what = 5; what < 11; what++) {
                due("pair's END " + kind, bench.pair(0, what) == OTHER_KIND, kind != 20);
            }
            boolean bears = isObject(kind) || isPair || kind == 8;
            due("on " + kind, bench.on(0, 9, 9), bears ? 0 : -3);
            due("row " + kind, bench.row(0, 99), bears ? kind == 16 ? 1 << 15 : kind == 6 ? 1 << 16 : 0 : -3);
            due("whole " + kind, bench.whole(0) == -3, !isObject(kind));
            due("like " + kind, bench.like(0, 0), kind == 0 ? -2 : 1);
            due("fullest " + kind, bench.meetings(4), isObject(kind) && kind != 2 ? 0 : -2);
            due("rank " + kind, bench.rank(1), kind == 0 ? 0 : 1);
        }
    }

    private static void whoMayMirror() {
        for (int i = 0; i < KINDS.length; i++) {
            int kind = KINDS[i];
            boolean mirror = isMirror(kind);
            BladesBench bench = made("A=" + FORMS[i] + ";B=x;C=y;D=@3,5");
            due("stand " + kind, bench.stand(0, 1) == -3, !mirror);
            due("stand " + kind, bench.stand(1, 0) == -3, !mirror);
            due("cosine " + kind, bench.cosine(0, 1, 1) == NO_SUCH, !mirror);
            due("cosine " + kind, bench.cosine(1, 0, 1) == NO_SUCH, !mirror);
            due("bundle " + kind, bench.bundle(0, 1, 2) == -3, !mirror);
            due("bundle " + kind, bench.bundle(1, 0, 2) == -3, !mirror);
            due("bundle " + kind, bench.bundle(1, 2, 0) == -3, !mirror);
            due("turned " + kind, bench.turned(3, 0, 8) == NO_PART, !mirror);
            due("brought " + kind, bench.brought(3, 1, 1) == -3, !mirror);
            due("brought " + kind, bench.brought(3, 1, 7) == -3, !mirror);
            due("brought, itself " + kind, bench.brought(3, 3, 1), mirror ? 0 : -3);
            due("come " + kind, bench.come(3, 1, 0), mirror ? 1 : -3);
            due("come " + kind, bench.come(3, 6 | 1, 0), mirror ? 1 : -3);
            due("brought itself, any KIND " + kind, bench.brought(0, 0, 2), 0);
            due("distance " + kind, bench.distance(0, 3, 0) == NO_SUCH, kind != 2);
            due("distance " + kind, bench.distance(3, 0, 0) == NO_SUCH, kind != 2);
        }
    }

    private static void whoMayLie() {
        for (int i = 0; i < KINDS.length; i++) {
            int kind = KINDS[i];
            BladesBench bench = made("A=" + FORMS[i] + ";B=y;C=@9,9");
            due("lies, the first " + kind, bench.lies(0, 1), kind == 2 ? 0 : -3);
            due("lies, the other " + kind, bench.lies(2, 0), isObject(kind) ? 0 : -3);
        }
        BladesBench bench = made("A=@0,0-f;B=#A;C=@1,0;D=#C;E=f;F=#f;G=@0,0+f;H=#G;I=2*y;J=#I");
        int[] lies = {1, 1, 1, 1, 0, 0, 0, 0, 1, 1};
        for (int letter = 0; letter < 10; letter++) due("lies on " + letter, bench.lies(2, letter), lies[letter]);
        due("POINTS ON OBJECTS", bench.meetings(0), 5);
    }

    /** MIDDLE, SIZE, LINE and all else of KINDS 12 to 16 are those of the DUAL. */
    private static void dualsAnswerAlike() {
        long[][] vectors = {vector(3, -4, 5, 7), spot(3, -4, 1), spot(1, 2, 3), vector(6, 8, -30, -30),
            vector(1, 1, 2, 0), vector(0, 0, 2, 2), vector(-7, 2, 0, 0), vector(0, 3, 0, 1)};
        for (long[] vector : vectors) {
            BladesBench bench = with(vector, undual(vector), vector(1, 2, 0, 0), spot(3, -4, 1), spot(0, 0, 1));
            for (int what = 0; what < 5; what++) due("middle", bench.middle(1, what), bench.middle(0, what));
            for (int what = 0; what < 3; what++) due("line", bench.line(1, what), bench.line(0, what));
            for (int what = 0; what < 2; what++) {
                due("power", bench.power(1, 7, -9, what), bench.power(0, 7, -9, what));
                due("cosine", bench.cosine(1, 2, what), bench.cosine(0, 2, what));
                due("cosine", bench.cosine(2, 1, what), bench.cosine(2, 0, what));
            }
            due("on", bench.on(1, 3, -4), bench.on(0, 3, -4));
            due("row", bench.row(1, -4), bench.row(0, -4));
            due("whole", bench.whole(1), bench.whole(0));
            due("stand", bench.stand(1, 2), bench.stand(0, 2));
            due("stand", bench.stand(2, 1), bench.stand(2, 0));
            due("bundle", bench.bundle(1, 2, 2), bench.bundle(0, 2, 2));
            due("lies", bench.lies(3, 1), bench.lies(3, 0));
            for (int part = 0; part < 16; part++) due("turned", bench.turned(3, 1, part), bench.turned(3, 0, part));
            due("brought", bench.brought(3, 4, 2), bench.brought(3, 4, 1));
            due("come", bench.come(3, 2, 1), bench.come(3, 1, 1));
            due("like", bench.like(0, 1), 0);
        }
    }

    // ---- products

    /** Units that are sorted one change of places after the other. */
    private static int sign(int a, int b) {
        String units = word(a) + word(b);
        int sign = 1;
        for (int i = 0; i < units.length(); i++) {
            for (int j = i + 1; j < units.length(); j++) {
                if (units.charAt(i) > units.charAt(j)) sign = -sign;
            }
        }
        return (a & b & 8) != 0 ? -sign : sign;
    }

    private static String word(int part) {
        StringBuilder word = new StringBuilder();
        for (int unit = 0; unit < 4; unit++) if ((part >> unit & 1) != 0) word.append(unit);
        return word.toString();
    }

    private static void unitsTable() {
        for (int a = 0; a < 16; a++) {
            for (int b = 0; b < 16; b++) {
                BladesBench bench = with(form(a, 3), form(b, 5));
                due("work C=A*B;D=A^B;E=A.B;F=A&B", work(bench, "C=A*B;D=A^B;E=A.B;F=A&B"), 4);
                int sign = 15 * sign(a, b);
                // DUALS are of the units that are missing; they are 15 ^ a and 15 ^ b.
                int meet = ((15 ^ a) & (15 ^ b)) != 0 ? 0
                    : 15 * sign(a, 15) * sign(b, 15) * sign(15 ^ a, 15 ^ b) * sign(a ^ b, 15);
                int[] due = {sign, (a & b) == 0 ? sign : 0, (a & b) == a ? sign : 0, meet};
                int[] at = {a ^ b, a ^ b, a ^ b, a ^ b ^ 15};
                for (int kind = 0; kind < 4; kind++) {
                    String call = "product " + kind + " of " + a + ", " + b;
                    due(call, bench.product(kind, 0, 1, at[kind]), due[kind]);
                    due(call, bench.part(2 + kind, at[kind]), due[kind]);
                    due(call + ", parts", bench.formIs(2 + kind, 4), due[kind] == 0 ? 0 : 1);
                }
            }
        }
    }

    private static void reverses() {
        int[] grades = {0, 1, 2, 3, 4};
        int[] parts = {0, 8, 12, 14, 15};
        for (int grade : grades) {
            BladesBench bench = with(form(parts[grade], 7));
            work(bench, "B=~A;C=#A;D=-A");
            due("~ of GRADE " + grade, bench.part(1, parts[grade]), grade == 2 || grade == 3 ? -7 : 7);
            due("# of GRADE " + grade, bench.part(2, 15 ^ parts[grade]), -7 * sign(parts[grade], 15));
            due("- of GRADE " + grade, bench.part(3, parts[grade]), -7);
        }
    }

    /** The first PART by number that is not 0 tells the sign; 0 stays. */
    private static void normals() {
        for (int first = 0; first < 16; first++) {
            for (int next = first + 1; next < 16; next++) {
                BladesBench bench = with(form(first, -6, next, 4), form(first, 6, next, -4), form(first, -6));
                work(bench, "D=!A;E=!B;F=!C");
                due("NORMAL's first", bench.part(3, first), 3);
                due("NORMAL's next", bench.part(3, next), -2);
                due("NORMAL's first", bench.part(4, first), 3);
                due("NORMAL's next", bench.part(4, next), -2);
                due("NORMAL of one PART", bench.part(5, first), 1);
                due("LIKE", bench.like(0, 1), 1);
            }
        }
        due("!0", made("A=!0").formIs(0, 4), 0);
        due("!1", made("A=!1").part(0, 0), 1);
        due("!(-1)", made("A=!-1").part(0, 0), 1);
        BladesBench bench = with(form(0, 100_000_000, 15, -99_999_999));
        work(bench, "B=!A");
        due("unlike ones stay", bench.part(1, 15), -99_999_999);
    }

    private static void sixtyFourBits() {
        long[] most = new long[16];
        for (int part = 0; part < 16; part++) most[part] = 100_000_000;
        BladesBench bench = with(most);
        for (int part = 0; part < 16; part++) {
            int[] sums = new int[3];
            for (int a = 0; a < 16; a++) {
                int b = a ^ part;
                sums[0] += sign(a, b);
                if ((a & b) == 0) sums[1] += sign(a, b);
                if ((a & b) == a) sums[2] += sign(a, b);
            }
            for (int kind = 0; kind < 3; kind++) {
                due("product " + kind, bench.product(kind, 0, 0, part), sums[kind] * 10_000_000_000_000_000L);
            }
        }
        // All of the numbers are told without the BOUND.
        BladesBench line = with(vector(100_000_000, -100_000_000, 0, 0), vector(99_999_999, 1, 99_999_999, 99_999_999));
        due("on", line.on(0, 99, 99), 1);
        due("on", line.on(0, 99, 98), 0);
        due("row", line.row(0, 15), 1 << 30);
        due("whole", line.whole(0), 199);
        due("on", line.on(1, 1, 0), 1);
        due("on", line.on(1, 1, 1), 0);
        due("on", line.on(1, 0, 99), 0);
    }

    // ---- MOTIONS

    private static void motion(long[] form, int motion, int order) {
        BladesBench bench = with(form);
        String name = java.util.Arrays.toString(form);
        due("motion " + name, bench.formIs(0, 2), motion);
        due("order of " + name, bench.formIs(0, 3), order);
    }

    /** What a FORM TIMES its REVERSE has beside PART 0, and PART 0 itself, at 0 and just beside it. */
    private static void motions() {
        motion(form(0, 1), 1, 1);
        motion(form(0, -100_000_000), 1, 1);
        motion(form(0, 1, 9, 1), 0, -3);
        motion(form(0, 2, 9, 1), 1, -2);
        motion(form(0, 100_000_000, 9, -100_000_000), 0, -3);
        motion(form(0, 100_000_000, 9, -99_999_999), 1, -2);
        motion(form(0, 1, 15, 1), 0, -3);
        motion(form(3, 1, 12, 1), 0, -3);
        motion(form(0, 1, 3, 1, 12, 1, 15, 1), 0, -3);
        motion(form(0, 2, 3, 1, 12, 2, 15, 1), 0, -3);
        motion(form(0, 2, 3, 1, 12, 4, 15, 2), 1, -2);
        motion(form(0, 2, 3, 1, 12, 2, 15, 2), 0, -3);
        motion(form(1, 1, 7, 1), 1, 4);
        motion(form(1, 1, 14, 1), 0, -3);
        motion(form(8, 1, 7, 1), 0, -3);
        motion(vector(3, 4, 0, 5), 0, -3);
        motion(vector(3, 4, 1, 5), 1, 2);
        motion(vector(3, 4, 0, 6), 1, 2);
        motion(vector(0, 0, 1, 1), 0, -3);
        motion(vector(1, 0, 1, 1), 1, 2);
    }

    /** Each ORDER that there is with whole PARTS; none; a PART at the BOUND and beyond it ahead of NORMAL. */
    private static void orders() {
        motion(form(0, 1, 3, 1, 6, 1, 5, 1), 1, 3);
        motion(form(0, 1, 3, 1), 1, 4);
        motion(form(0, 3, 3, 1, 6, 1, 5, 1), 1, 6);
        motion(form(0, 3, 3, 1, 6, -1, 5, 1), 1, 6);
        motion(form(1, 3, 2, 5), 1, 2);
        motion(form(0, 1, 5, 1, 9, 1), 1, -2);
        motion(form(0, 3, 3, 4), 1, -2);
        motion(form(0, 2, 3, 1), 1, -2);
        motion(form(0, 1, 3, 1, 5, 50_000_000, 9, 50_000_000), 1, 4);
        motion(form(0, 1, 3, 1, 5, -50_000_000, 9, -50_000_000), 1, 4);
        motion(form(0, 1, 3, 1, 5, 50_000_001, 9, 50_000_001), 1, -2);
        motion(form(0, 1, 3, 1, 5, -50_000_001, 9, -50_000_001), 1, -2);
        // The NORMAL TIMES the MOTION itself: -100,000,000 x y, then beyond.
        motion(times(50_000_000, form(0, 1, 3, -1)), 1, 4);
        motion(times(50_000_001, form(0, 1, 3, -1)), 1, -2);
        motion(times(99, form(0, 1, 3, -1)), 1, 4);
        motion(times(9_999, vector(1, 0, 0, 0)), 1, 2);
        motion(times(33_333, form(0, 3, 3, 1, 6, 1, 5, 1)), 1, 6);
    }

    // ---- MIDDLE, SIZE, LINE

    private static void middle(long[] vector, long... want) {
        BladesBench bench = with(vector, times(-1, vector), undual(vector));
        for (int letter = 0; letter < 3; letter++) {
            for (int what = 0; what < 5; what++) {
                due("middle " + what + " of " + java.util.Arrays.toString(vector), bench.middle(letter, what), want[what]);
            }
        }
    }

    private static void middles() {
        middle(vector(1, 0, 1, 0), -1, 0, 1, 2, 1);
        middle(vector(1, 0, 0, 1), 1, 0, 1, 0, 1);
        middle(vector(2, 4, 3, 1), -1, -2, 1, 7, 1);
        middle(vector(2, 3, 3, 1), -2, -3, 2, 21, 4);
        middle(vector(2, 4, 9, 5), -1, -2, 2, 19, 4);
        middle(vector(6, 9, 0, 3), 2, 3, 1, 12, 1);
        middle(vector(0, 0, 5, 0), 0, 0, 1, 1, 1);
        middle(vector(0, 0, 0, 7), 0, 0, 1, -1, 1);
        middle(vector(0, 0, 1, 7), 0, 0, 1, -4, 3);
        middle(vector(4, 6, 0, 10), 2, 3, 5, -12, 25);
        middle(spot(1000, -999, 1), 1000, -999, 1, 0, 1);
        middle(vector(100_000_000, -100_000_000, 100_000_000, -100_000_000), -1, 1, 2, 1, 2);
        middle(vector(0, 0, 100_000_000, -99_999_999), 0, 0, 1, 1, 199_999_999);
        middle(vector(100_000_000, 99_999_999, 1, 0), -100_000_000, -99_999_999, 1, 19_999_999_800_000_002L, 1);
        middle(vector(1, 0, 100_000_000, -100_000_000), -1, 0, 200_000_000, 1, 40_000_000_000_000_000L);
    }

    private static void line(long[] vector, int... want) {
        BladesBench bench = with(vector, times(-1, vector), undual(vector));
        for (int letter = 0; letter < 3; letter++) {
            for (int what = 0; what < 3; what++) {
                due("line " + what + " of " + java.util.Arrays.toString(vector), bench.line(letter, what), want[what]);
            }
        }
    }

    private static void lines() {
        line(vector(2, 4, 3, 3), 2, 4, 3);
        line(vector(2, 4, 6, 6), 1, 2, 3);
        line(vector(2, 3, 6, 6), 2, 3, 6);
        line(vector(0, 2, 4, 4), 0, 1, 2);
        line(vector(0, 2, -4, -4), 0, 1, -2);
        line(vector(0, 2, 0, 0), 0, 1, 0);
        line(vector(2, 0, 5, 5), 2, 0, 5);
        line(vector(1, -5, 7, 7), 1, -5, 7);
        line(vector(1, -5, -7, -7), 1, -5, -7);
        line(vector(100_000_000, 99_999_999, -100_000_000, -100_000_000), 100_000_000, 99_999_999, -100_000_000);
    }

    // ---- COSINE, DISTANCE

    private static void cosine(long[] one, long[] other, long upper, long lower) {
        BladesBench bench = with(one, other);
        String name = java.util.Arrays.toString(one) + java.util.Arrays.toString(other);
        due("cosine of " + name, bench.cosine(0, 1, 0), upper);
        due("cosine of " + name, bench.cosine(0, 1, 1), lower);
        due("cosine of " + name, bench.cosine(1, 0, 0), upper);
        due("cosine of " + name, bench.cosine(1, 0, 1), lower);
    }

    private static void cosines() {
        long[] x = vector(1, 0, 0, 0);
        cosine(vector(10_000, 0, 0, 0), x, 1, 1);
        cosine(vector(10_000, 1, 0, 0), x, NO_SUCH, NO_SUCH);
        cosine(vector(9_999, 0, 0, 0), vector(10_000, 1, 0, 0), NO_SUCH, NO_SUCH);
        cosine(vector(10_000, 0, 0, 0), vector(-10_000, 0, 0, 0), -1, 1);
        // s INNER t is 100,000,000 and 100,000,001, the squares are small.
        cosine(vector(-163, 0, 7072, 7071), vector(75, 0, 7072, -7071), 156_250_000_000_000L, 12_574_919);
        cosine(vector(163, 0, -7072, -7071), vector(75, 0, 7072, -7071), -156_250_000_000_000L, 12_574_919);
        cosine(vector(-191, 0, 7072, 7071), vector(64, 0, 7072, -7071), NO_SUCH, NO_SUCH);
        cosine(vector(191, 0, -7072, -7071), vector(64, 0, 7072, -7071), NO_SUCH, NO_SUCH);
        // Squares that are 1, 0 and -1.
        cosine(vector(0, 0, 1, 0), x, 0, 1);
        cosine(vector(10_000, 0, 49_999_999, 50_000_000), x, 100_000_000, 1);
        cosine(vector(10_000, 0, 24_999_999, 25_000_001), x, NO_SUCH, NO_SUCH);
        cosine(vector(10_000, 0, 50_000_000, 50_000_001), x, NO_SUCH, NO_SUCH);
        cosine(FAR_ONE, x, NO_SUCH, NO_SUCH);
        cosine(vector(0, 0, 0, 1), x, NO_SUCH, NO_SUCH);
        cosine(vector(0, 0, 0, 1), vector(0, 0, 1, 2), NO_SUCH, NO_SUCH);
        cosine(vector(1, 1, 0, 0), vector(1, -1, 0, 0), 0, 1);
        cosine(vector(2, 2, 0, 0), vector(2, 0, 0, 0), 1, 2);
    }

    private static void distance(long[] one, long[] other, long upper, long lower) {
        BladesBench bench = with(one, other);
        String name = java.util.Arrays.toString(one) + java.util.Arrays.toString(other);
        due("distance of " + name, bench.distance(0, 1, 0), upper);
        due("distance of " + name, bench.distance(0, 1, 1), lower);
        due("distance of " + name, bench.distance(1, 0, 0), upper);
        due("distance of " + name, bench.distance(1, 0, 1), lower);
    }

    private static void distances() {
        long[] zero = spot(0, 0, 1);
        int[][] signs = {{1, 0}, {-1, 0}, {0, 1}, {0, -1}};
        for (int[] sign : signs) {
            distance(spot(1000 * sign[0], 1000 * sign[1], 1), zero, 1_000_000, 1);
            distance(spot(1001 * sign[0], 1001 * sign[1], 1), zero, NO_SUCH, NO_SUCH);
            distance(spot(sign[0], sign[1], 1000), zero, 1, 1_000_000);
            distance(spot(sign[0], sign[1], 1001), zero, NO_SUCH, NO_SUCH);
            distance(times(7, spot(999 * sign[0], 999 * sign[1], 3)), zero, 110_889, 1);
        }
        distance(spot(1000, 1000, 1), spot(-1000, -1000, 1), 8_000_000, 1);
        distance(spot(1000, 999, 1000), spot(-999, -1000, 999), 7_984_011_996_001L, 998_001_000_000L);
        distance(spot(1, 1, 2), spot(1, 1, 3), 1, 18);
        distance(spot(5, 5, 1), times(-3, spot(5, 5, 1)), 0, 1);
    }

    // ---- pair()

    private static void pair(long[] form, long... want) {
        BladesBench bench = with(form);
        for (int what = 0; what < 11; what++) {
            due("pair " + what + " of " + java.util.Arrays.toString(form), bench.pair(0, what), want[what]);
        }
    }

    private static void root(long[] form, boolean whole) {
        BladesBench bench = with(form);
        for (int what = 5; what < 11; what++) {
            due("r of " + java.util.Arrays.toString(form), bench.pair(0, what) != NOT_WHOLE, whole);
        }
    }

    /** r is whole or not, at squares and just beside them. */
    private static void pairRoots() {
        for (int r = 1; r <= 40; r++) {
            root(form(9, r), true);
            root(form(9, r, 10, 1), false);
            if (r > 1) root(form(3, 1, 9, r), false);
        }
        root(form(9, 3, 10, 4), true);
        root(form(5, 1, 9, 3), false);
        root(form(5, 4, 9, 5), true);
        root(form(9, 10_000), true);
        root(form(9, 9_999, 10, 9_999), false);
        root(form(9, 10_000, 10, 1), false);
        root(form(3, 1, 9, 10_000), false);
        root(form(9, 100_000_000), true);
        root(form(9, 100_000_000, 10, 1), false);
        root(form(3, 1, 9, 100_000_000), false);
        root(form(9, 60_000_000, 10, 80_000_000), true);
        root(form(9, 100_000_000, 10, 100_000_000), false);
        // Without a whole r there is no B and r; THE FAR ONE INNER B is beyond the BOUND here.
        root(form(5, -99_999_999, 9, 100_000_000, 12, 1), false);
    }

    /** B TIMES THE FAR ONE, all three; THE FAR ONE INNER B, B and r, their product: at the BOUND and beyond it. */
    private static void pairBounds() {
        long no = OTHER_KIND;
        pair(form(9, 10_000), 0, 0, 1, 1, 1, -1, 0, 1, 1, 0, 1);
        pair(form(9, -10_000), 0, 0, 1, 1, 1, 1, 0, 1, -1, 0, 1);
        pair(form(9, 10_000, 10, 1), no, no, no, no, no,
            NOT_WHOLE, NOT_WHOLE, NOT_WHOLE, NOT_WHOLE, NOT_WHOLE, NOT_WHOLE);
        // The first END's product has a PART -100,000,001; the second one's has none beyond.
        pair(form(5, 1, 9, 10_000, 12, -1), -1, 0, 9999, 100_000_000, 99_980_001, no, no, no, 1, 0, 1);
        // r is 100,000,000, then 100,000,001; the product is small, or far beyond.
        pair(form(5, 1_123_551, 9, 1_123_640, 12, 99_999_999), no, no, no, no, no, -1, 0, 89, no, no, no);
        pair(form(5, -1_123_551, 9, -1_123_640, 12, -99_999_999), no, no, no, no, no, no, no, no, -1, 0, 89);
        pair(form(5, 33_333_332, 9, 33_333_335, 12, 100_000_000), no, no, no, no, no, no, no, no, no, no, no);
        pair(form(5, -33_333_332, 9, -33_333_335, 12, -100_000_000), no, no, no, no, no, no, no, no, no, no, no);
        pair(form(5, 1, 9, -1, 12, 100_000_000), no, no, no, no, no, 0, 0, 1, no, no, no);
        // THE FAR ONE INNER B and B TIMES THE FAR ONE have a PART 200,000,000.
        pair(form(5, -100_000_000, 9, 100_000_000, 12, 1), no, no, no, no, no, no, no, no, no, no, no);
    }

    /** One of both numbers is at the BOUND or beyond it ahead of lowest terms; the lower one is 0 or 1. */
    private static void halves() {
        int[][] pairs = {{9_999, 10_000, 9_999}, {0, 1, 10_000}, {-5_000, 5_000, 1}, {-5_000, 5_001, 1}, {0, 10_000, 0},
            {-1, 9_999, 0}, {100_000_000, 99_999_999, 1}, {10_000, 9_999, 9_000}, {10_001, 10_000, 1}};
        long[][] halves = {{100_000_000, 1}, {OTHER_KIND, OTHER_KIND}, {1, 100_000_000}, {OTHER_KIND, OTHER_KIND}, {1, 1},
            {9_998, 10_000}, {OTHER_KIND, OTHER_KIND}, {80_980_001, 1}, {-20_000, 1}};
        for (int i = 0; i < pairs.length; i++) {
            BladesBench bench = with(form(5, pairs[i][0], 9, pairs[i][1], 12, pairs[i][2]));
            due("HALF " + i, bench.pair(0, 3), i == 5 ? 4_999 : halves[i][0]);
            due("HALF " + i, bench.pair(0, 4), i == 5 ? 5_000 : halves[i][1]);
        }
        due("the lower one is 0", made("A=x*y").pair(0, 3), OTHER_KIND);
        due("the lower one is 0", made("A=x*y").pair(0, 4), OTHER_KIND);
        due("the lower one is 1", made("A=x*p").pair(0, 3), -1);
        due("the lower one is 1", made("A=x*p").pair(0, 4), 1);
        due("the upper one is 0", made("A=@0,0^y").pair(0, 3), 0);
    }

    // ---- POWER

    private static void power(long[] vector, long upper, long lower) {
        BladesBench bench = with(vector, times(-1, vector), undual(vector));
        for (int letter = 0; letter < 3; letter++) {
            String name = "power of " + java.util.Arrays.toString(vector);
            due(name, bench.power(letter, 0, 0, 0), upper);
            due(name, bench.power(letter, 0, 0, 1), lower);
        }
    }

    /** Each number of MIDDLE and SIZE, on either side, in lowest terms, at 10000 and beyond it. */
    private static void powerLimits() {
        long no = OTHER_KIND;
        for (int sign = -1; sign <= 1; sign += 2) {
            power(vector(10_000 * sign, 0, 49_999_999, 50_000_000), 99_999_999, 1);
            power(vector(10_001 * sign, 0, 50_010_000, 50_010_001), no, no);
            power(vector(0, 10_000 * sign, 49_999_999, 50_000_000), 99_999_999, 1);
            power(vector(0, 10_001 * sign, 50_010_000, 50_010_001), no, no);
            // MIDDLE 1/10000 and SIZE 1/256; MIDDLE 1/10001 and SIZE 0.
            power(vector(5_000 * sign, 0, -25_097_656, 24_902_344), -12_207, 3_125_000);
            power(vector(10_001 * sign, 0, -50_010_000, 50_010_001), no, no);
            power(vector(9_999 * sign, 0, -49_990_000, 49_990_001), 1, 99_980_001);
        }
        power(vector(0, 0, 9_999, 10_001), 10_000, 1);
        power(vector(0, 0, 10_000, 10_002), no, no);
        power(vector(0, 0, -10_001, -9_999), -10_000, 1);
        power(vector(0, 0, -10_002, -10_000), no, no);
        power(vector(0, 0, -9_999, 10_001), 1, 10_000);
        power(vector(0, 0, -10_000, 10_002), no, no);
        power(vector(0, 0, -10_001, 9_999), -1, 10_000);
        power(vector(0, 0, -10_002, 10_000), no, no);
    }

    // ---- STAND, BUNDLE

    private static void stand(long[] one, long[] other, int want) {
        BladesBench bench = with(one, other, undual(other));
        String name = java.util.Arrays.toString(one) + java.util.Arrays.toString(other);
        due("stand of " + name, bench.stand(0, 1), want);
        due("stand of " + name, bench.stand(1, 0), want);
        due("stand of " + name, bench.stand(0, 2), want);
    }

    private static void stands() {
        long[] x = vector(1, 0, 0, 0);
        stand(vector(10_000, 0, 0, 0), x, 1);
        stand(vector(10_000, 0, 0, 0), vector(0, 10_000, 0, 0), 0);
        stand(vector(10_000, 1, 0, 0), x, -4);
        stand(vector(-163, 0, 7072, 7071), vector(75, 0, 7072, -7071), 2);
        stand(vector(163, 0, -7072, -7071), vector(75, 0, 7072, -7071), 2);
        stand(vector(-191, 0, 7072, 7071), vector(64, 0, 7072, -7071), -4);
        stand(vector(191, 0, -7072, -7071), vector(64, 0, 7072, -7071), -4);
        // Circles of radius 1 whose MIDDLES are 99/50, 2 and 101/50 from each other.
        long[] circle = vector(0, 0, -1, 0);
        stand(circle, vector(9_900, 0, 4_801, 9_801), 0);
        stand(circle, vector(4, 0, 1, 3), 0);
        stand(circle, vector(4, 0, 2, 4), 1);
        stand(circle, vector(10_100, 0, 5_201, 10_201), 2);
        stand(circle, vector(2, 0, -1, 1), 0);
        stand(circle, vector(2, 0, -4, -2), 1);
        stand(circle, vector(0, 0, -2, 0), 1);
        stand(circle, vector(0, 0, -5, -3), 2);
        stand(x, vector(3, 0, 5, 5), 1);
        stand(x, vector(9_999, 1, 0, 0), 0);
    }

    private static void bundle(long[] one, long[] other, long[] third, int want) {
        due("bundle", with(one, other, third).bundle(0, 1, 2), want);
        due("bundle", with(undual(one), times(-3, other), third).bundle(0, 1, 2), want);
    }

    private static void bundles() {
        long[] x = vector(1, 0, 0, 0);
        long[] y = vector(0, 1, 0, 0);
        bundle(x, y, vector(5, -7, 0, 0), 1);
        bundle(x, y, vector(5, -7, 1, 1), 0);
        bundle(x, y, vector(5, -7, 0, -1), 0);
        bundle(x, x, y, 1);
        // The NORMAL's greatest PART: 100,000,000 and 100,000,001; -100,000,000 and -100,000,001.
        bundle(vector(10_000, 1, 0, 0), vector(0, 10_000, 1, 1), x, 0);
        bundle(vector(10_000, 1, 0, 0), vector(0, 10_000, 1, 1), vector(10_000, 1, 0, 0), 1);
        bundle(vector(10_000, 1, 0, 0), vector(-1, 10_000, 1, 1), vector(10_000, 1, 0, 0), -4);
        bundle(vector(1, 0, 10_000, 10_000), vector(10_000, 1, 0, 0), vector(1, 0, 10_000, 10_000), 1);
        bundle(vector(1, 0, 10_000, 10_000), vector(10_000, 1, -1, -1), vector(1, 0, 10_000, 10_000), -4);
        // Of these the OUTER is beyond the BOUND, its NORMAL is not.
        bundle(times(9_999, x), times(99_999, y), vector(1, 1, 0, 0), 1);
        bundle(vector(20_000, 10_000, 0, 0), vector(10_000, 20_000, 0, 0), x, 1);
        bundle(vector(20_001, 10_000, 0, 0), vector(10_000, 20_000, 0, 0), x, 1);
        // The third one's PARTS do not count.
        bundle(x, y, vector(10_000, 1, 10_000, 10_000), 0);
        bundle(x, y, times(100_000_000, x), 1);
    }

    // ---- GROUP, RANK

    private static void group(int want, long[]... motions) {
        due("group", with(motions).group((1 << motions.length) - 1), want);
    }

    private static void groups() {
        long[] x = vector(1, 0, 0, 0);
        long[] y = vector(0, 1, 0, 0);
        long[] p = vector(0, 0, 1, 0);
        long[] m = vector(0, 0, 0, 1);
        group(2, x);
        group(4, x, y);
        group(8, x, y, p);
        group(16, x, y, p, m);
        group(16, x, y, p, m, times(-5, x), form(0, 7));
        group(48, vector(1, 1, 0, 0), vector(0, 1, 1, 0), x);
        group(96, vector(1, 1, 0, 0), vector(0, 1, 1, 0), x, m);
        // The n-th is 1 + n c x (p + m): so many are within the BOUND.
        for (int sign = -1; sign <= 1; sign += 2) {
            group(200, form(0, 1, 5, sign * 500_000L, 9, sign * 500_000L));
            group(199, form(0, 1, 5, sign * 500_001L, 9, sign * 500_001L));
            group(199, form(0, 1, 5, sign * 502_512L, 9, sign * 502_512L));
            group(198, form(0, 1, 5, sign * 502_513L, 9, sign * 502_513L));
            group(200, form(0, 1, 5, sign * 497_512L, 9, sign * 497_512L));
            group(2, form(0, 1, 5, sign * 50_000_000L, 9, sign * 50_000_000L));
            group(1, form(0, 1, 5, sign * 50_000_001L, 9, sign * 50_000_001L));
        }
        group(1, form(0, 100_000_000));
        group(1, form(0, -3));
        // The NORMAL TIMES the told one itself: -100,000,000 x y, then beyond.
        group(4, times(50_000_000, form(0, 1, 3, -1)));
        group(1, times(50_000_001, form(0, 1, 3, -1)));
        // What is beyond does not count, and others go on.
        group(6, form(0, 1, 5, 50_000_001, 9, 50_000_001), x);
    }

    private static void ranks() {
        due("0 modulo the prime", with(form(3, 1_000_003)).rank(1), 0);
        due("0 modulo the prime", with(form(3, -1_000_003)).rank(1), 0);
        due("0 modulo the prime", with(form(3, 99_000_297)).rank(1), 0);
        due("1 less", with(form(3, 1_000_002)).rank(1), 1);
        due("1 more", with(form(3, 1_000_004)).rank(1), 1);
        due("alike modulo the prime", with(form(0, 1, 1, 5), form(0, 1, 1, 1_000_008)).rank(3), 1);
        due("alike modulo the prime", with(form(0, 1, 1, 5), form(0, 1, 1, -999_998)).rank(3), 1);
        due("unlike modulo the prime", with(form(0, 1, 1, 5), form(0, 1, 1, 1_000_007)).rank(3), 2);
        due("multiples", with(form(0, 2, 1, 3), form(0, 4, 1, 6)).rank(3), 1);
        due("multiples", with(form(0, 2, 1, 3), form(0, 4, 1, 7)).rank(3), 2);
        due("0 and another", with(form(0, 0), form(7, 7)).rank(3), 1);
        BladesBench bench = new BladesBench();
        for (int letter = 0; letter < 12; letter++) put(bench, letter, form(15 - letter, 3, 0, letter));
        due("all twelve", bench.rank(4095), 12);
        put(bench, 11, form(15, 3, 14, 3, 0, 1));
        due("the last is a sum", bench.rank(4095), 11);
        due("without one of these", bench.rank(4094), 11);
    }

    // ---- what lies ON what

    private static void ons() {
        for (int u = -16; u <= 16; u++) {
            for (int v = -99; v <= 99; v += 33) {
                BladesBench bench = with(spot(u, v, 1));
                due("row", bench.row(0, v), u < -15 || u > 15 ? 0 : 1 << u + 15);
                due("row beside", bench.row(0, v < 99 ? v + 1 : v - 1), 0);
                due("on", bench.on(0, u, v), 1);
                due("on beside", bench.on(0, u + 1, v), 0);
                due("whole", bench.whole(0), 1);
            }
        }
        int[][] corners = {{99, 99}, {99, -99}, {-99, 99}, {-99, -99}};
        for (int[] corner : corners) {
            due("corner", with(spot(corner[0], corner[1], 1)).on(0, corner[0], corner[1]), 1);
            due("corner", with(spot(corner[0], corner[1], 1)).whole(0), 1);
            due("beyond the corner", with(spot(corner[0] * 100 / 99, corner[1], 1)).whole(0), 0);
            due("beyond the corner", with(spot(corner[0], corner[1] * 100 / 99, 1)).whole(0), 0);
        }
        for (int at = 98; at <= 100; at++) {
            for (int sign = -1; sign <= 1; sign += 2) {
                due("u = " + at, with(vector(1, 0, sign * at, sign * at)).whole(0), at > 99 ? 0 : 199);
                due("v = " + at, with(vector(0, 1, sign * at, sign * at)).whole(0), at > 99 ? 0 : 199);
            }
        }
        due("u + v = 198", with(vector(1, 1, 198, 198)).whole(0), 1);
        due("u + v = 199", with(vector(1, 1, 199, 199)).whole(0), 0);
        due("u - v = -197", with(vector(1, -1, -197, -197)).whole(0), 2);
        due("half numbers", with(vector(2, 0, 1, 1)).whole(0), 0);
        due("a circle beyond", with(vector(200, 0, 9_999, 10_001)).on(0, 99, 0), 0);
        // A PLACE that OUTER the FORM is not 0 in one PART alone.
        BladesBench bench = with(form(5, 1, 9, 1), form(3, 1, 5, -1, 9, -1), form(5, -1, 9, 1), form(12, 1));
        due("x f", bench.on(0, 0, 0), 0);
        due("x y - x f", bench.on(1, 0, 1), 0);
        due("x m - x p", bench.on(2, 0, 0), 1);
        due("p m", bench.on(3, 0, 0), 1);
        due("p m", bench.on(3, 0, 1), 0);
        due("p m", bench.on(3, 1, 0), 0);
    }

    private static void likes() {
        due("one is 0", made("A=0;B=x").like(0, 1), -2);
        due("the other is 0", made("A=0;B=x").like(1, 0), -2);
        due("both are 0", made("A=0;B=0").like(0, 1), -2);
        due("unlike in the last PART", with(form(0, 1, 15, 1), form(0, 1, 15, 2)).like(0, 1), 0);
        due("unlike signs", with(form(0, 1, 15, 1), form(0, 1, 15, -1)).like(0, 1), 0);
        due("multiples", with(form(0, 7, 15, -7), form(0, -100_000_000, 15, 100_000_000)).like(0, 1), 1);
    }

    private static void meetings() {
        long[] a = vector(0, 0, -1, 1);
        long[] b = vector(1, 0, 0, 1);
        long[] c = vector(-1, 0, 0, 1);
        long[] d = vector(4, 0, 3, 5);
        threes(1, a, b, c);
        threes(4, a, b, c, d);
        threes(1, vector(2, 0, 0, 2), spot(2, 3, 1), spot(3, 6, 1));
        threes(0, spot(1, 0, 1), spot(2, 3, 1), spot(3, 7, 1));
        threes(0, spot(3, 4, 1), spot(5, 0, 1), spot(-4, 3, 1));
        // Of two, of three: a PART 100,000,000, and one that is beyond.
        threes(1, times(10_000, a), times(10_000, b), a);
        threes(0, times(17, a), times(5_882_353, b), a);
        threes(1, times(-10_000, a), times(10_000, b), a);
        threes(0, times(-17, a), times(5_882_353, b), a);
        threes(1, a, b, times(50_000_000, c));
        threes(0, a, b, times(50_000_001, c));
        threes(1, a, b, times(-50_000_000, c));
        threes(0, a, b, times(-50_000_001, c));
        fours(1, a, b, c, d);
        fours(1, spot(3, 4, 1), spot(5, 0, 1), spot(-4, 3, 1), spot(0, -5, 1));
        fours(0, spot(3, 4, 1), spot(5, 0, 1), spot(-4, 3, 1), spot(0, -6, 1));
        fours(1, times(10_000, a), times(10_000, b), a, spot(3, 7, 1));
        fours(0, times(17, a), times(5_882_353, b), a, spot(3, 7, 1));
        fours(1, a, b, times(50_000_000, c), d);
        fours(0, a, b, times(50_000_001, c), d);
        fours(5, a, b, c, d, spot(9, 0, 1));
        for (String other : new String[] {"0", "f", "y", "#@0,0", "@1,0+f", "@1,0-f"}) {
            due("no POINT first", made("A=" + other + ";B=@0,0;C=@1,0").meetings(1), 0);
            due("no POINT in between", made("A=@0,0;B=" + other + ";C=@1,0").meetings(1), 0);
            due("no POINT last", made("A=@0,0;B=@1,0;C=" + other).meetings(1), 0);
            due("no POINT first", made("A=" + other + ";B=@0,0;C=@1,0;D=@2,0").meetings(2), 0);
            due("no POINT second", made("A=@0,0;B=" + other + ";C=@1,0;D=@2,0").meetings(2), 0);
            due("no POINT third", made("A=@0,0;B=@1,0;C=" + other + ";D=@2,0").meetings(2), 0);
            due("no POINT last", made("A=@0,0;B=@1,0;C=@2,0;D=" + other).meetings(2), 0);
        }
        BladesBench bench = made("A=x;B=x;C=-2*x;D=0;E=0;F=y");
        due("LIKE ones", bench.meetings(3), 3);
        bench.drop(0);
        due("without the first", bench.meetings(3), 1);
        bench.drop(2);
        due("without the third", bench.meetings(3), 0);
    }

    private static void threes(int want, long[]... points) {
        due("threes", with(points).meetings(1), want);
    }

    private static void fours(int want, long[]... points) {
        due("fours", with(points).meetings(2), want);
    }

    private static void fullest() {
        BladesBench bench = made("A=@0,0;B=x;C=@0,1;D=y;E=#x;F=@5,5;G=@0,0-25*f;H=@5,0;I=@0,5");
        due("POINTS", bench.meetings(0), 3 + 2 + 3 + 2);
        due("the lowest of most", bench.meetings(4), 1);
        bench.drop(1);
        due("the next", bench.meetings(4), 4);
        bench.drop(4);
        due("of two with two", bench.meetings(4), 3);
        bench.drop(0);
        due("the circle", bench.meetings(4), 6);
        bench.drop(6);
        bench.drop(3);
        due("without any", bench.meetings(4), -2);
        due("a POINT is on itself, and no OBJECT here", made("A=@0,0;B=@0,0").meetings(0), 0);
    }

    // ---- TURNS

    private static void turned(long[] form, long[] mirror, int part, int want) {
        due("turned", with(form, mirror).turned(0, 1, part), want);
        due("turned by a dual", with(form, undual(mirror)).turned(0, 1, part), want);
        due("turned by the same, its sign turned", with(form, times(-1, mirror)).turned(0, 1, part), want);
    }

    private static void turneds() {
        // All of it: 100,000,000 and 100,000,001.
        turned(form(0, 1), vector(10_000, 0, 0, 0), 0, 1);
        turned(form(0, 1), vector(10_000, 1, 0, 0), 0, NO_PART);
        turned(form(0, -1), vector(10_000, 0, 0, 0), 0, 1);
        turned(form(0, -1), vector(10_000, 1, 0, 0), 0, NO_PART);
        // MIRROR TIMES FORM: so, though all of it is small.
        turned(vector(0, 10_000, 0, 0), vector(1, 0, 10_000, 10_000), 2, 1);
        turned(vector(0, 17, 0, 0), vector(1, 0, 5_882_353, 5_882_353), 2, NO_PART);
        turned(vector(0, 17, 0, 0), vector(1, 0, 5_882_352, 5_882_352), 2, 1);
        turned(vector(100_000_000, 1, 0, 0), vector(1, 0, 0, 0), 1, 100_000_000);
        turned(vector(100_000_000, 1, 0, 0), vector(1, 0, 0, 0), 2, -1);
        turned(form(15, 100_000_000), vector(0, 0, -1, 0), 15, 1);
        turned(form(0, 0), vector(1, 0, 0, 0), 0, 0);
    }

    private static void brings(long[] motion, int u, int v, long... want) {
        BladesBench bench = with(motion);
        for (int what = 0; what < 3; what++) {
            due("brings " + java.util.Arrays.toString(motion), bench.brings(0, u, v, what), want[what]);
        }
    }

    private static void brings() {
        long no = OTHER_KIND;
        brings(vector(10_000, 0, 0, 0), 0, 0, 0, 0, 1);
        brings(vector(10_000, 1, 0, 0), 0, 0, no, no, no);
        brings(form(0, 10_000), 0, 0, 0, 0, 1);
        brings(form(0, 10_001), 0, 0, no, no, no);
        brings(form(0, 71), 99, 99, 99, 99, 1);
        brings(form(0, 72), 99, 99, no, no, no);
        brings(form(0, -100_000_000), 0, 0, no, no, no);
        // The circle's own MIDDLE goes to THE FAR ONE, the one beside it to a POINT.
        brings(vector(0, 0, -1, 0), 0, 0, no, no, no);
        brings(vector(0, 0, -1, 0), 1, 0, 1, 0, 1);
        brings(vector(0, 0, -1, 0), 0, -99, 0, -1, 99);
        brings(vector(0, 0, 0, 1), 0, 0, no, no, no);
        brings(vector(0, 0, 0, 1), 0, 2, 0, -1, 2);
    }

    private static void broughts() {
        long[] from = vector(1, 0, 1, 0);
        long[] to = vector(1, 0, -1, 0);
        long[] x = vector(1, 0, 0, 0);
        due("BROUGHT at the BOUND", with(from, to, times(10_000, x)).brought(0, 1, 4), 1);
        due("beyond it", with(from, to, times(10_001, x)).brought(0, 1, 4), -2);
        due("so from 0 TURNS", with(from, times(-7, from), times(10_001, x)).brought(0, 1, 4), 0);
        due("the NORMAL is TURNED", with(times(10_000, from), to, times(10_000, x)).brought(0, 1, 4), 1);
        // Lines x = 0 and x = 1: each two TURNS are a way of 2.
        for (int way = 0; way <= 4; way++) {
            BladesBench bench = with(spot(5, 0, 1), spot(way % 2 == 0 ? 5 - way : -4 - way, 0, 1), x, vector(1, 0, 1, 1));
            due("BROUGHT " + way, bench.brought(0, 1, 12), way > 3 ? -2 : way);
        }
        due("the fewest", made("A=@1,0;B=@-1,0;C=y;D=x;E=x+y;F=x-y").brought(0, 1, 60), 1);
        due("not by that one", made("A=@1,0;B=@-1,0;C=y;D=x;E=x+y;F=x-y").brought(0, 1, 4 + 16 + 32), 2);
    }

    private static void comes() {
        long[] from = vector(1, 0, 1, 0);
        long[] x = vector(1, 0, 0, 0);
        due("COME at the BOUND", with(from, times(10_000, x)).come(0, 2, 1), 2);
        due("beyond it", with(from, times(10_001, x)).come(0, 2, 1), 1);
        due("at the BOUND, -100000001", with(from, vector(10_000, 1, 0, 0)).come(0, 2, 3), 1);
        due("others go on", with(vector(1, 1, 1, 0), times(10_001, x), vector(0, 1, 0, 0)).come(0, 6, 3), 2);
        BladesBench bench = made("A=@5,3;B=x;C=x-f;D=y;E=y-2*f;F=@0,0-f;G=@1,2-3*f");
        for (int n = 0; n <= 3; n++) due("shifts, " + n, bench.come(0, 6, n), 1 + 2 * n);
        int most = 1;
        for (int n = 1; n <= 3; n++) {
            int come = bench.come(0, 126, n);
            due("more with " + n, come > most, true);
            most = come;
        }
        due("fewer than 300, for six MIRRORS and three TURNS make no more", most < 260, true);
    }
}
