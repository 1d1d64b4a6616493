/**
 * Circles, lines, points and pairs as blades: numbers of sixteen parts. What each call promises stands in
 * ../shared/DOC.md; README.md tells how the file is laid out.
 */
public final class BladesBench {
    public static final int NONE = -1;

    private static final int PARTS = 16;
    private static final int LETTERS = 12;
    private static final int WHOLE_UNIT = 15;
    private static final long BOUND = 100_000_000L;
    private static final int TAPE = 140;
    private static final int TEXT = 120;
    private static final int FAR_PLACE = 99;
    private static final int MOST_TOLD = 6;
    private static final int MOST_TRIALS = 20;
    private static final int MOST_TURNS = 3;
    private static final int MANY_COME = 300;
    private static final int MANY_IN_GROUP = 200;
    private static final int NO_FORM = -2;
    private static final int OTHER = -3;
    private static final int BEYOND = -4;
    private static final int NO_PART = -1_000_000_000;
    private static final long NO_SUCH = -2_000_000_000_000_000_000L;
    private static final long OTHER_KIND = -3_000_000_000_000_000_000L;
    private static final long NOT_WHOLE = -1_000_000_000_000_000_000L;
    private static final int POINT = 2;
    private static final int LINE = 6;
    private static final int PAIR = 20;

    private final int[] tape = new int[TAPE];
    private int taped = 0;
    private final int[] script = new int[TEXT];
    private int scripted = 0;
    private int x = 1;
    private final Letters now = new Letters();
    private final Letters kept = new Letters();
    private boolean hasKept = false;
    private int keptX = 1;
    private final Letters draft = new Letters();
    private final Past past = new Past();
    private final Reader reader = new Reader();
    private final Mover mover = new Mover();
    private final Pairs pairs = new Pairs();
    private final Meetings met = new Meetings();
    private final Spot spot = new Spot();
    private final Spot otherSpot = new Spot();
    private final long[] vector = new long[PARTS];
    private final long[] otherVector = new long[PARTS];
    private final long[] mixed = new long[PARTS];

    public BladesBench() {
    }

    // ---- the tape, WORK and THE BOOK

    public int feed(int a, int b, int c, int d, int e) {
        if (taped > TAPE - 20) return NONE;
        lay(a);
        lay(b);
        lay(c);
        lay(d);
        lay(e);
        return taped;
    }

    private void lay(int bytes) {
        for (int shift = 24; shift >= 0; shift -= 8) {
            if (taped < TAPE) {
                tape[taped] = (bytes >> shift) & 255;
                taped++;
            }
        }
    }

    public int work(int n) {
        if (n < 1 || n > TEXT || n > taped) return NONE;
        taped = 0;
        return perform(tape, n);
    }

    private int perform(int[] text, int n) {
        int answer = reader.read(text, n, now);
        if (answer > 0) {
            past.remember(now);
            now.become(reader.outcome());
        }
        return answer;
    }

    public int book(int n) {
        if (n < 0 || n > TEXT || n > taped) return NONE;
        System.arraycopy(tape, 0, script, 0, n);
        scripted = n;
        taped = 0;
        return n;
    }

    public int run() {
        if (scripted == 0) return NO_FORM;
        return perform(script, scripted);
    }

    public int trials(int drawn, int n, int letter, int kind) {
        if (drawn < 0 || drawn > MOST_TOLD || n < 1 || n > MOST_TRIALS) return NONE;
        if (letter < 0 || letter >= LETTERS || kind < NONE || kind > 42) return NONE;
        if (scripted == 0) return NO_FORM;
        int ahead = x;
        int hits = 0;
        for (int trial = 0; trial < n; trial++) {
            if (hitsInTrial(drawn, letter, kind)) hits++;
        }
        x = ahead;
        return hits;
    }

    private boolean hitsInTrial(int letters, int letter, int kind) {
        draft.become(now);
        drawInto(draft, letters);
        boolean faulty = reader.read(script, scripted, draft) < 0;
        if (kind == NONE || faulty) return kind == NONE && faulty;
        Letters behind = reader.outcome();
        return behind.has(letter) && Shapes.kindOf(behind.form(letter)) == kind;
    }

    // ---- LETTERS, what is drawn, KEPT and taken BACK

    public boolean drop(int letter) {
        if (!now.has(letter)) return false;
        past.remember(now);
        now.forget(letter);
        return true;
    }

    public int draws(int n) {
        if (n < 1 || n > MOST_TOLD) return NONE;
        past.remember(now);
        drawInto(now, n);
        return now.size();
    }

    private void drawInto(Letters letters, int n) {
        for (int letter = 0; letter < n; letter++) {
            int u = drawCoordinate();
            int v = drawCoordinate();
            Algebra.place(u, v, mixed);
            letters.put(letter, mixed);
        }
    }

    private int drawCoordinate() {
        x = (25173 * x + 13849) & 65535;
        return x % 21 - 10;
    }

    public int back() {
        if (past.size() == 0) return NONE;
        past.restore(now);
        return past.size();
    }

    public boolean seed(int x) {
        if (x < 0 || x > 65535) return false;
        this.x = x;
        return true;
    }

    public int keep() {
        kept.become(now);
        keptX = x;
        hasKept = true;
        return now.size();
    }

    public boolean undo() {
        if (!hasKept) return false;
        now.become(kept);
        x = keptX;
        past.clear();
        return true;
    }

    public int check(int n) {
        if (n < 0 || n > LETTERS || n > taped) return NO_FORM;
        taped = 0;
        for (int letter = 0; letter < n; letter++) {
            int kind = now.has(letter) ? kindAt(letter) : 255;
            if (tape[letter] != kind) return letter;
        }
        return NONE;
    }

    public int count(int what) {
        if (what == 0) return now.size();
        if (what == 1) return past.size();
        if (what == 2) return taped;
        if (what == 3) return x;
        return NONE;
    }

    // ---- what one LETTER stands for

    public int part(int letter, int part) {
        if (!now.has(letter) || part < 0 || part >= PARTS) return NO_PART;
        return (int) now.form(letter)[part];
    }

    public int letters(int what) {
        if (what < 0 || what > 4) return NONE;
        int bits = 0;
        for (int letter = 0; letter < LETTERS; letter++) {
            if (now.has(letter) && belongs(letter, what)) bits |= 1 << letter;
        }
        return bits;
    }

    private boolean belongs(int letter, int what) {
        if (what == 0) return true;
        if (what == 1) return kindAt(letter) == POINT;
        if (what == 2) return Shapes.isObject(kindAt(letter));
        if (what == 3) return Shapes.isMirror(kindAt(letter));
        return mover.isMotion(now.form(letter));
    }

    private int kindAt(int letter) {
        return Shapes.kindOf(now.form(letter));
    }

    public int formIs(int letter, int what) {
        if (!now.has(letter) || what < 0 || what > 4) return NONE;
        long[] form = now.form(letter);
        if (what == 0) return Shapes.kindOf(form);
        if (what == 1) return Shapes.gradesOf(form);
        if (what == 4) return Algebra.partsNotZero(form);
        boolean motion = mover.isMotion(form);
        if (what == 2) return motion ? 1 : 0;
        return motion ? mover.orderOf(form) : OTHER;
    }

    public long middle(int letter, int what) {
        if (!now.has(letter) || what < 0 || what > 4) return NO_SUCH;
        if (!Shapes.hasMiddle(kindAt(letter))) return OTHER_KIND;
        Shapes.vectorOf(now.form(letter), vector);
        spot.take(vector);
        return spot.number(what);
    }

    public int line(int letter, int what) {
        if (!now.has(letter) || what < 0 || what > 2) return NO_PART;
        if (kindAt(letter) % 10 != LINE) return NO_PART;
        Shapes.vectorOf(now.form(letter), vector);
        return (int) Shapes.lineNumber(vector, what);
    }

    public int on(int letter, int u, int v) {
        if (!now.has(letter) || isFar(u) || isFar(v)) return NONE;
        long[] form = now.form(letter);
        int kind = Shapes.kindOf(form);
        if (!Shapes.canBear(kind)) return OTHER;
        Algebra.place(u, v, mixed);
        return Shapes.bears(form, kind, mixed) ? 1 : 0;
    }

    private static boolean isFar(int coordinate) {
        return coordinate < -FAR_PLACE || coordinate > FAR_PLACE;
    }

    public int row(int letter, int v) {
        if (!now.has(letter) || isFar(v)) return NONE;
        long[] form = now.form(letter);
        int kind = Shapes.kindOf(form);
        if (!Shapes.canBear(kind)) return OTHER;
        int bits = 0;
        for (int u = -15; u <= 15; u++) {
            Algebra.place(u, v, mixed);
            if (Shapes.bears(form, kind, mixed)) bits |= 1 << (u + 15);
        }
        return bits;
    }

    public int whole(int letter) {
        if (!now.has(letter)) return NONE;
        if (!Shapes.isObject(kindAt(letter))) return OTHER;
        Shapes.vectorOf(now.form(letter), vector);
        int places = 0;
        for (int v = -FAR_PLACE; v <= FAR_PLACE; v++) {
            for (int u = -FAR_PLACE; u <= FAR_PLACE; u++) {
                if (Shapes.placeInner(u, v, vector) == 0) places++;
            }
        }
        return places;
    }

    public long pair(int letter, int what) {
        if (!now.has(letter) || what < 0 || what > 10) return NO_SUCH;
        long[] form = now.form(letter);
        int kind = Shapes.kindOf(form);
        if (!Shapes.isPair(kind)) return OTHER_KIND;
        if (what < 3) return pairs.findMiddle(form, spot) ? spot.number(what) : OTHER_KIND;
        if (what < 5) return pairs.half(form, what - 3);
        if (kind != PAIR) return OTHER_KIND;
        long root = Algebra.rootOf(Algebra.square(form));
        if (root < 0) return NOT_WHOLE;
        boolean first = what < 8;
        if (!pairs.findEnd(form, first ? root : -root, spot)) return OTHER_KIND;
        return spot.number(first ? what - 5 : what - 8);
    }

    public long power(int letter, int u, int v, int what) {
        if (!now.has(letter) || isFar(u) || isFar(v) || what < 0 || what > 1) return NO_SUCH;
        if (!Shapes.hasMiddle(kindAt(letter))) return OTHER_KIND;
        Shapes.vectorOf(now.form(letter), vector);
        spot.take(vector);
        if (spot.longestOfMiddle() > 10_000 || spot.longestOfSize() > 10_000) return OTHER_KIND;
        return spot.powerOf(u, v, what);
    }

    // ---- two LETTERS and more

    public long product(int kind, int one, int other, int part) {
        if (!now.has(one) || !now.has(other)) return NO_SUCH;
        if (kind < 0 || kind > 3 || part < 0 || part >= PARTS) return NO_SUCH;
        if (kind < 3) return Algebra.partOf(kind, now.form(one), now.form(other), part);
        Algebra.dual(now.form(one), vector);
        Algebra.dual(now.form(other), otherVector);
        Algebra.multiply(Algebra.OUTER, vector, otherVector, mixed);
        return Algebra.timesWholeUnit(mixed, part);
    }

    public long cosine(int one, int other, int what) {
        if (!now.has(one) || !now.has(other) || what < 0 || what > 1) return NO_SUCH;
        if (!Shapes.isObject(kindAt(one)) || !Shapes.isObject(kindAt(other))) return NO_SUCH;
        Shapes.vectorOf(now.form(one), vector);
        Shapes.vectorOf(now.form(other), otherVector);
        long square = Algebra.square(vector);
        long otherSquare = Algebra.square(otherVector);
        long inner = Algebra.partOf(Algebra.INNER, vector, otherVector, 0);
        if (square <= 0 || otherSquare <= 0) return NO_SUCH;
        if (isBeyond(square) || isBeyond(otherSquare) || isBeyond(inner)) return NO_SUCH;
        return Algebra.lowest(inner * Math.abs(inner), square * otherSquare, what);
    }

    private static boolean isBeyond(long number) {
        return number > BOUND || number < -BOUND;
    }

    public long distance(int one, int other, int what) {
        if (!now.has(one) || !now.has(other) || what < 0 || what > 1) return NO_SUCH;
        if (kindAt(one) != POINT || kindAt(other) != POINT) return NO_SUCH;
        spot.take(now.form(one));
        otherSpot.take(now.form(other));
        if (spot.longestOfMiddle() > 1000 || otherSpot.longestOfMiddle() > 1000) return NO_SUCH;
        return spot.distanceTo(otherSpot, what);
    }

    public int stand(int one, int other) {
        if (!now.has(one) || !now.has(other)) return NONE;
        if (!Shapes.isMirror(kindAt(one)) || !Shapes.isMirror(kindAt(other))) return OTHER;
        Shapes.vectorOf(now.form(one), vector);
        Shapes.vectorOf(now.form(other), otherVector);
        long square = Algebra.square(vector);
        long otherSquare = Algebra.square(otherVector);
        long inner = Algebra.partOf(Algebra.INNER, vector, otherVector, 0);
        if (isBeyond(square) || isBeyond(otherSquare) || isBeyond(inner)) return BEYOND;
        long apart = inner * inner - square * otherSquare;
        if (apart < 0) return 0;
        return apart == 0 ? 1 : 2;
    }

    public int bundle(int one, int other, int third) {
        if (!now.has(one) || !now.has(other) || !now.has(third)) return NONE;
        if (!Shapes.isMirror(kindAt(one)) || !Shapes.isMirror(kindAt(other))) return OTHER;
        if (!Shapes.isMirror(kindAt(third))) return OTHER;
        Shapes.vectorOf(now.form(one), vector);
        Shapes.vectorOf(now.form(other), otherVector);
        Algebra.normalise(vector);
        Algebra.normalise(otherVector);
        Algebra.multiply(Algebra.OUTER, vector, otherVector, mixed);
        Algebra.normalise(mixed);
        if (!Algebra.isWithinBound(mixed)) return BEYOND;
        Shapes.vectorOf(now.form(third), vector);
        return Algebra.isOuterZero(mixed, vector) ? 1 : 0;
    }

    public int like(int one, int other) {
        if (!now.has(one) || !now.has(other)) return NONE;
        if (Algebra.isZero(now.form(one)) || Algebra.isZero(now.form(other))) return NO_FORM;
        return met.areLike(now.form(one), now.form(other)) ? 1 : 0;
    }

    public int lies(int point, int object) {
        if (!now.has(point) || !now.has(object)) return NONE;
        int kind = kindAt(object);
        if (kindAt(point) != POINT || !Shapes.isObject(kind)) return OTHER;
        return Shapes.bears(now.form(object), kind, now.form(point)) ? 1 : 0;
    }

    public int meetings(int what) {
        if (what == 0) return met.pointsOnObjects(now);
        if (what == 1 || what == 2) return met.dependent(now, what == 2);
        if (what == 3) return met.likePairs(now);
        if (what == 4) return met.fullestObject(now);
        return NONE;
    }

    public int rank(int letters) {
        if (!areTold(letters, LETTERS)) return NONE;
        return met.independent(now, letters);
    }

    /** Whether the bits name LETTERS that all stand for FORMS, one at least, most at the most. */
    private boolean areTold(int bits, int most) {
        if (bits < 1 || bits >= 1 << LETTERS || Integer.bitCount(bits) > most) return false;
        for (int letter = 0; letter < LETTERS; letter++) {
            if (isIn(bits, letter) && !now.has(letter)) return false;
        }
        return true;
    }

    private static boolean isIn(int bits, int letter) {
        return (bits >> letter & 1) != 0;
    }

    // ---- motions and MIRRORS

    public int group(int motions) {
        if (!areTold(motions, MOST_TOLD)) return NONE;
        mover.tellNone();
        for (int letter = 0; letter < LETTERS; letter++) {
            if (isIn(motions, letter)) {
                if (!mover.isMotion(now.form(letter))) return OTHER;
                mover.tell(now.form(letter));
            }
        }
        return mover.groupSize();
    }

    public int turned(int letter, int mirror, int part) {
        if (!now.has(letter) || !now.has(mirror) || part < 0 || part >= PARTS) return NO_PART;
        if (!Shapes.isMirror(kindAt(mirror))) return NO_PART;
        Shapes.vectorOf(now.form(mirror), vector);
        if (!mover.turn(now.form(letter), vector, mixed)) return NO_PART;
        return (int) mixed[part];
    }

    public long brings(int letter, int u, int v, int what) {
        if (!now.has(letter) || isFar(u) || isFar(v) || what < 0 || what > 2) return NO_SUCH;
        long[] form = now.form(letter);
        if (!mover.isMotion(form)) return OTHER_KIND;
        Algebra.place(u, v, vector);
        return mover.bring(form, vector, spot) ? spot.number(what) : OTHER_KIND;
    }

    public int brought(int one, int other, int mirrors) {
        if (!now.has(one) || !now.has(other) || !areTold(mirrors, MOST_TOLD)) return NONE;
        if (!tellMirrors(mirrors)) return OTHER;
        return mover.turnsBetween(now.form(one), now.form(other));
    }

    public int come(int letter, int mirrors, int n) {
        if (!now.has(letter) || !areTold(mirrors, MOST_TOLD) || n < 0 || n > MOST_TURNS) return NONE;
        if (!tellMirrors(mirrors)) return OTHER;
        return mover.howManyCome(now.form(letter), n);
    }

    /** Tells the mover the VECTORS of the LETTERS; false: one is no MIRROR. */
    private boolean tellMirrors(int mirrors) {
        mover.tellNone();
        for (int letter = 0; letter < LETTERS; letter++) {
            if (isIn(mirrors, letter)) {
                if (!Shapes.isMirror(kindAt(letter))) return false;
                Shapes.vectorOf(now.form(letter), vector);
                mover.tell(vector);
            }
        }
        return true;
    }

    /** The arithmetic of FORMS, which are rows of sixteen PARTS; a row to write into is never one that is read. */
    private static final class Algebra {
        static final int TIMES = 0;
        static final int OUTER = 1;
        static final int INNER = 2;

        /** Bit b of entry a: the sign turns when the units a come ahead of the units b. */
        private static final int[] SIGN_TURNS = {
            0x0000, 0x0000, 0xAAAA, 0xAAAA, 0x6666, 0x6666, 0xCCCC, 0xCCCC,
            0x6996, 0x6996, 0xC33C, 0xC33C, 0x0FF0, 0x0FF0, 0xA55A, 0xA55A};

        private Algebra() {
        }

        private static boolean counts(int kind, int a, int b) {
            if (kind == OUTER) return (a & b) == 0;
            if (kind == INNER) return (a & b) == a;
            return true;
        }

        /** One PART of a product without the others: only the units a and a ^ part can give it. */
        static long partOf(int kind, long[] one, long[] other, int part) {
            long sum = 0;
            for (int a = 0; a < PARTS; a++) {
                int b = (a ^ part) & WHOLE_UNIT;
                if (one[a] != 0 && other[b] != 0 && counts(kind, a, b)) {
                    long term = one[a] * other[b];
                    sum += (SIGN_TURNS[a] >> b & 1) != 0 ? -term : term;
                }
            }
            return sum;
        }

        static void multiply(int kind, long[] one, long[] other, long[] into) {
            for (int part = 0; part < PARTS; part++) into[part] = 0;
            for (int a = 0; a < PARTS; a++) {
                for (int b = 0; b < PARTS && one[a] != 0; b++) {
                    if (other[b] != 0 && counts(kind, a, b)) {
                        long term = one[a] * other[b];
                        into[a ^ b] += (SIGN_TURNS[a] >> b & 1) != 0 ? -term : term;
                    }
                }
            }
        }

        static long square(long[] form) {
            return partOf(TIMES, form, form, 0);
        }

        static boolean isOuterZero(long[] one, long[] other) {
            for (int part = 0; part < PARTS; part++) {
                if (partOf(OUTER, one, other, part) != 0) return false;
            }
            return true;
        }

        static long timesWholeUnit(long[] form, int part) {
            int a = (part ^ WHOLE_UNIT) & WHOLE_UNIT;
            return (SIGN_TURNS[a] >> WHOLE_UNIT & 1) != 0 ? -form[a] : form[a];
        }

        static void dual(long[] form, long[] into) {
            for (int part = 0; part < PARTS; part++) into[part] = -timesWholeUnit(form, part);
        }

        /** MEET by way of two rows of the caller; false: the OUTER of the DUALS is beyond the BOUND. */
        static boolean meet(long[] one, long[] other, long[] way, long[] otherWay, long[] into) {
            dual(one, way);
            dual(other, otherWay);
            multiply(OUTER, way, otherWay, into);
            copy(into, way);
            for (int part = 0; part < PARTS; part++) into[part] = timesWholeUnit(way, part);
            return isWithinBound(way);
        }

        static void reverse(long[] form) {
            for (int part = 0; part < PARTS; part++) {
                int grade = Integer.bitCount(part);
                if (grade == 2 || grade == 3) form[part] = -form[part];
            }
        }

        static void negate(long[] form) {
            for (int part = 0; part < PARTS; part++) form[part] = -form[part];
        }

        static void keepGrade(long[] form, int grade) {
            for (int part = 0; part < PARTS; part++) {
                if (Integer.bitCount(part) != grade) form[part] = 0;
            }
        }

        static void add(long[] form, long[] into, boolean less) {
            for (int part = 0; part < PARTS; part++) into[part] += less ? -form[part] : form[part];
        }

        static void copy(long[] form, long[] into) {
            System.arraycopy(form, 0, into, 0, PARTS);
        }

        /** Makes the row the number alone. */
        static void number(long value, long[] into) {
            for (int part = 0; part < PARTS; part++) into[part] = 0;
            into[0] = value;
        }

        static void place(int u, int v, long[] into) {
            long squares = (long) u * u + (long) v * v;
            number(0, into);
            into[1] = 2L * u;
            into[2] = 2L * v;
            into[4] = squares - 1;
            into[8] = squares + 1;
        }

        static void farOne(long[] into) {
            number(0, into);
            into[4] = 1;
            into[8] = 1;
        }

        static void normalise(long[] form) {
            long divisor = 0;
            boolean below = false;
            for (int part = 0; part < PARTS; part++) {
                if (divisor == 0) below = form[part] < 0;
                divisor = gcd(divisor, form[part]);
            }
            if (divisor == 0) return;
            if (below) divisor = -divisor;
            for (int part = 0; part < PARTS; part++) form[part] = form[part] / divisor;
        }

        static boolean isZero(long[] form) {
            return partsNotZero(form) == 0;
        }

        static int partsNotZero(long[] form) {
            int parts = 0;
            for (int part = 0; part < PARTS; part++) {
                if (form[part] != 0) parts++;
            }
            return parts;
        }

        static boolean isSame(long[] one, long[] other) {
            for (int part = 0; part < PARTS; part++) {
                if (one[part] != other[part]) return false;
            }
            return true;
        }

        static boolean isWithinBound(long[] form) {
            for (int part = 0; part < PARTS; part++) {
                if (isBeyond(form[part])) return false;
            }
            return true;
        }

        static long gcd(long one, long other) {
            long a = one < 0 ? -one : one;
            long b = other < 0 ? -other : other;
            // Euclid's steps on 64 bits are fewer than a hundred.
            for (int turn = 0; turn < 100 && b != 0; turn++) {
                long rest = a % b;
                a = b;
                b = rest;
            }
            return a;
        }

        /** The upper (what 0) or the lower number in lowest terms; the lower one is not 0. */
        static long lowest(long upper, long lower, int what) {
            long divisor = gcd(upper, lower);
            if (divisor == 0) return 0;
            if (lower < 0) divisor = -divisor;
            return (what == 0 ? upper : lower) / divisor;
        }

        /** The r that is not below 0 with r r = square; -1: it is not whole. */
        static long rootOf(long square) {
            long low = 0;
            // The greatest number whose square has 63 bits.
            long high = 3_037_000_499L;
            for (int turn = 0; turn < 64 && low < high; turn++) {
                long half = low + (high - low + 1) / 2;
                if (half * half <= square) low = half;
                else high = half - 1;
            }
            return low * low == square ? low : -1;
        }
    }

    /** What FORMS are: KINDS, VECTORS, what lies ON them. */
    private static final class Shapes {
        private Shapes() {
        }

        /** Bit k: a PART of k units is not 0. */
        static int gradesOf(long[] form) {
            int grades = 0;
            for (int part = 0; part < PARTS; part++) {
                if (form[part] != 0) grades |= 1 << Integer.bitCount(part);
            }
            return grades;
        }

        static int kindOf(long[] form) {
            int grades = gradesOf(form);
            if (grades == 0) return 0;
            if (grades == 1) return 1;
            if (grades == 2) return kindOfVector(form[1], form[2], form[4], form[8]);
            if (grades == 8) return 10 + kindOfVector(vectorPart(form, 1), vectorPart(form, 2),
                vectorPart(form, 4), vectorPart(form, 8));
            if (grades == 4) return kindOfPair(form);
            if (grades == 16) return 30;
            if ((grades & 10) == 0) return 40;
            return grades == 10 ? 41 : 42;
        }

        private static int kindOfVector(long a, long b, long c, long d) {
            if (c == d) return a != 0 || b != 0 ? LINE : 5;
            long q = a * a + b * b + c * c - d * d;
            if (q == 0) return POINT;
            return q > 0 ? 3 : 4;
        }

        private static int kindOfPair(long[] form) {
            if (!Algebra.isOuterZero(form, form)) return 9;
            if (isOnFarOne(form)) return 8;
            long square = Algebra.square(form);
            if (square > 0) return PAIR;
            return square == 0 ? 21 : 22;
        }

        /** THE FAR ONE OUTER a FORM of GRADE 2 alone is 0; told by its PARTS, so that no row is made for it. */
        private static boolean isOnFarOne(long[] form) {
            return form[3] == 0 && form[5] == form[9] && form[6] == form[10];
        }

        static boolean isObject(int kind) {
            return kind >= POINT && kind <= LINE || kind >= 10 + POINT && kind <= 10 + LINE;
        }

        static boolean isMirror(int kind) {
            return kind == 3 || kind == LINE || kind == 13 || kind == 10 + LINE;
        }

        static boolean hasMiddle(int kind) {
            return kind >= POINT && kind <= 4 || kind >= 10 + POINT && kind <= 14;
        }

        static boolean isPair(int kind) {
            return kind >= PAIR && kind <= 22;
        }

        static boolean canBear(int kind) {
            return isObject(kind) || isPair(kind) || kind == 8;
        }

        /** A PART of the VECTOR of an OBJECT. */
        private static long vectorPart(long[] form, int part) {
            return gradesOf(form) == 8 ? -Algebra.timesWholeUnit(form, part) : form[part & WHOLE_UNIT];
        }

        static void vectorOf(long[] form, long[] into) {
            for (int part = 0; part < PARTS; part++) into[part] = vectorPart(form, part);
        }

        /** A POINT lies ON a FORM of a KIND that can bear it. */
        static boolean bears(long[] form, int kind, long[] point) {
            if (!isObject(kind)) return Algebra.isOuterZero(point, form);
            long inner = point[1] * vectorPart(form, 1) + point[2] * vectorPart(form, 2)
                + point[4] * vectorPart(form, 4) - point[8] * vectorPart(form, 8);
            return inner == 0;
        }

        /** PART 0 of a PLACE INNER a VECTOR, without a row for the PLACE. */
        static long placeInner(int u, int v, long[] vector) {
            long squares = (long) u * u + (long) v * v;
            return 2 * (u * vector[1] + v * vector[2]) + (squares - 1) * vector[4] - (squares + 1) * vector[8];
        }

        /** a, b or c of the LINE of a VECTOR of KIND 6. */
        static long lineNumber(long[] vector, int what) {
            long divisor = Algebra.gcd(Algebra.gcd(vector[1], vector[2]), vector[4]);
            if (divisor == 0) return 0;
            if (vector[1] < 0 || vector[1] == 0 && vector[2] < 0) divisor = -divisor;
            long number = what == 0 ? vector[1] : what == 1 ? vector[2] : vector[4];
            return number / divisor;
        }
    }

    /** MIDDLE and SIZE of a VECTOR, both in lowest terms. */
    private static final class Spot {
        private long x = 0;
        private long y = 0;
        private long low = 1;
        private long size = 0;
        private long sizeLow = 1;

        /** The VECTOR is of KIND 2, 3 or 4, so that e is not 0. */
        void take(long[] vector) {
            long a = vector[1];
            long b = vector[2];
            long e = vector[4] - vector[8];
            if (e == 0) return;
            long divisor = Algebra.gcd(Algebra.gcd(a, b), e);
            if (e > 0) divisor = -divisor;
            if (divisor == 0) return;
            x = a / divisor;
            y = b / divisor;
            low = -e / divisor;
            long q = a * a + b * b + vector[4] * vector[4] - vector[8] * vector[8];
            size = Algebra.lowest(q, e * e, 0);
            sizeLow = Algebra.lowest(q, e * e, 1);
        }

        long number(int what) {
            if (what == 0) return x;
            if (what == 1) return y;
            if (what == 2) return low;
            return what == 3 ? size : sizeLow;
        }

        long longestOfMiddle() {
            return Math.max(low, Math.max(Math.abs(x), Math.abs(y)));
        }

        long longestOfSize() {
            return Math.max(sizeLow, Math.abs(size));
        }

        long distanceTo(Spot other, int what) {
            long across = x * other.low - other.x * low;
            long up = y * other.low - other.y * low;
            long lower = low * other.low;
            return Algebra.lowest(across * across + up * up, lower * lower, what);
        }

        long powerOf(int u, int v, int what) {
            long across = u * low - x;
            long up = v * low - y;
            long square = across * across + up * up;
            return Algebra.lowest(square * sizeLow - size * low * low, low * low * sizeLow, what);
        }
    }

    /** What the LETTERS stand for. */
    private static final class Letters {
        private final long[][] forms = new long[LETTERS][PARTS];
        private final boolean[] stands = new boolean[LETTERS];

        boolean has(int letter) {
            return letter >= 0 && letter < LETTERS && stands[letter];
        }

        /** The row of a LETTER that stands for a FORM: has() is asked first. */
        long[] form(int letter) {
            return forms[letter];
        }

        void put(int letter, long[] form) {
            if (letter < 0 || letter >= LETTERS) return;
            Algebra.copy(form, forms[letter]);
            stands[letter] = true;
        }

        void forget(int letter) {
            if (letter >= 0 && letter < LETTERS) stands[letter] = false;
        }

        int size() {
            int size = 0;
            for (int letter = 0; letter < LETTERS; letter++) {
                if (stands[letter]) size++;
            }
            return size;
        }

        void become(Letters other) {
            for (int letter = 0; letter < LETTERS; letter++) {
                stands[letter] = other.stands[letter];
                if (stands[letter]) Algebra.copy(other.forms[letter], forms[letter]);
            }
        }
    }

    /** LETTERS as they were ahead of what can be taken BACK, in a ring. */
    private static final class Past {
        private static final int MOST = 8;
        private final Letters[] ring = new Letters[MOST];
        private int next = 0;
        private int held = 0;

        Past() {
            for (int slot = 0; slot < MOST; slot++) ring[slot] = new Letters();
        }

        int size() {
            return held;
        }

        void remember(Letters letters) {
            ring[next].become(letters);
            next = (next + 1) % MOST;
            if (held < MOST) held++;
        }

        void restore(Letters letters) {
            if (held == 0) return;
            next = (next + MOST - 1) % MOST;
            held--;
            letters.become(ring[next]);
        }

        void clear() {
            held = 0;
        }
    }

    /** Reads a TEXT of STEPS and reckons it at the same time, on LETTERS of its own. */
    private static final class Reader {
        private static final int MOST_STEPS = 12;
        private static final int MOST_OPEN = 6;
        private static final int MOST_DIGITS = 4;
        private static final int END = -1;
        private static final int CANT_STAND = 1;
        private static final int FIFTH_DIGIT = 2;
        private static final int TOO_HIGH = 3;
        private static final int STEP_TOO_MANY = 4;
        private static final int TOO_DEEP = 5;
        private static final int STANDS_FOR_NONE = 7;
        private static final int PART_BEYOND = 8;
        private static final int NO_LETTER = -1;
        private static final int NO_NUMBER = -1;
        private static final int NO_COORDINATE = 1000;

        private final Letters letters = new Letters();
        // A row of each for every number of signs that are open: what is read inside leaves these alone.
        private final long[][] sums = new long[MOST_OPEN + 1][PARTS];
        private final long[][] terms = new long[MOST_OPEN + 1][PARTS];
        private final long[][] factors = new long[MOST_OPEN + 1][PARTS];
        private final long[] way = new long[PARTS];
        private final long[] otherWay = new long[PARTS];
        private final long[] outcome = new long[PARTS];
        private int[] text = new int[0];
        private int length = 0;
        private int at = 0;
        private int fault = 0;
        private int faultAt = 0;

        /** LETTERS behind the last TEXT that was read without a FAULT. */
        Letters outcome() {
            return letters;
        }

        /** How many STEPS the first n bytes have, or the FAULT as the face tells it. */
        int read(int[] bytes, int n, Letters ahead) {
            text = bytes;
            length = Math.min(n, bytes.length);
            at = 0;
            letters.become(ahead);
            for (int steps = 1; steps <= MOST_STEPS; steps++) {
                int letter = target();
                if (letter == NO_LETTER || !sum(0)) return toldFault();
                letters.put(letter, sums[0]);
                if (at >= length) return steps;
                if (next() != ';') {
                    fails(CANT_STAND, at);
                    return toldFault();
                }
                at++;
            }
            fails(STEP_TOO_MANY, at);
            return toldFault();
        }

        private int toldFault() {
            return -1000 * fault - faultAt;
        }

        private boolean fails(int number, int place) {
            fault = number;
            faultAt = place;
            return false;
        }

        private int next() {
            return at >= 0 && at < length ? text[at] : END;
        }

        /** The LETTER ahead of a =; NO_LETTER: a FAULT. */
        private int target() {
            int letter = next() - 'A';
            boolean named = letter >= 0 && letter < LETTERS;
            if (named) at++;
            if (named && next() == '=') {
                at++;
                return letter;
            }
            fails(CANT_STAND, at);
            return NO_LETTER;
        }

        /** E, into the row of sums; so many signs are open around it. */
        private boolean sum(int open) {
            if (open < 0 || open > MOST_OPEN) return fails(TOO_DEEP, at);
            if (!term(open)) return false;
            Algebra.copy(terms[open], sums[open]);
            for (int left = length - at; left > 0; left--) {
                int sign = next();
                if (sign != '+' && sign != '-') return true;
                int place = at;
                at++;
                if (!term(open)) return false;
                Algebra.add(terms[open], sums[open], sign == '-');
                if (!Algebra.isWithinBound(sums[open])) return fails(PART_BEYOND, place);
            }
            return true;
        }

        /** T, into the row of terms. */
        private boolean term(int open) {
            if (open < 0 || open > MOST_OPEN) return fails(TOO_DEEP, at);
            if (!factor(open)) return false;
            Algebra.copy(factors[open], terms[open]);
            for (int left = length - at; left > 0; left--) {
                int sign = next();
                if (!isSign(sign)) return true;
                int place = at;
                at++;
                if (!factor(open)) return false;
                if (!combine(sign, terms[open], factors[open])) return fails(PART_BEYOND, place);
                Algebra.copy(outcome, terms[open]);
            }
            return true;
        }

        private static boolean isSign(int sign) {
            return sign == '*' || sign == '^' || sign == '.' || sign == '&' || sign == '>';
        }

        /** What a SIGN makes of two FORMS, into outcome; false: a PART is beyond the BOUND. */
        private boolean combine(int sign, long[] one, long[] other) {
            if (sign == '&') return Algebra.meet(one, other, way, otherWay, outcome);
            if (sign == '>') return Mover.mirror(one, other, way, otherWay, outcome);
            int kind = sign == '^' ? Algebra.OUTER : sign == '.' ? Algebra.INNER : Algebra.TIMES;
            Algebra.multiply(kind, one, other, outcome);
            return Algebra.isWithinBound(outcome);
        }

        /** F, into the row of factors. */
        private boolean factor(int open) {
            if (open < 0 || open > MOST_OPEN) return fails(TOO_DEEP, at);
            int sign = next();
            if (isOpener(sign)) {
                if (open == MOST_OPEN) return fails(TOO_DEEP, at);
                at++;
                return opened(sign, open);
            }
            if (sign >= 'A' && sign < 'A' + LETTERS) return letter(sign - 'A', factors[open]);
            if (sign == '@') return spotted(factors[open]);
            if (isDigit(sign)) return counted(factors[open]);
            return unit(sign, factors[open]);
        }

        private static boolean isOpener(int sign) {
            return sign == '(' || sign == '~' || sign == '#' || sign == '!' || sign == '-' || sign == 'g';
        }

        private static boolean isDigit(int sign) {
            return sign >= '0' && sign <= '9';
        }

        /** An F behind one of ( ~ # ! - g, which is open till it ends. */
        private boolean opened(int sign, int open) {
            if (open < 0 || open >= MOST_OPEN) return fails(TOO_DEEP, at);
            if (sign == '(') {
                if (!sum(open + 1)) return false;
                if (next() != ')') return fails(CANT_STAND, at);
                at++;
                Algebra.copy(sums[open + 1], factors[open]);
                return true;
            }
            int grade = 0;
            if (sign == 'g') {
                if (!isDigit(next())) return fails(CANT_STAND, at);
                grade = next() - '0';
                if (grade > 4) return fails(TOO_HIGH, at);
                at++;
            }
            if (!factor(open + 1)) return false;
            change(sign, grade, factors[open + 1], factors[open]);
            return true;
        }

        private static void change(int sign, int grade, long[] form, long[] into) {
            if (sign == '#') {
                Algebra.dual(form, into);
                return;
            }
            Algebra.copy(form, into);
            if (sign == '~') Algebra.reverse(into);
            else if (sign == '!') Algebra.normalise(into);
            else if (sign == '-') Algebra.negate(into);
            else Algebra.keepGrade(into, grade);
        }

        private boolean letter(int letter, long[] into) {
            if (!letters.has(letter)) return fails(STANDS_FOR_NONE, at);
            at++;
            Algebra.copy(letters.form(letter), into);
            return true;
        }

        private boolean unit(int sign, long[] into) {
            if (sign == 'f') Algebra.farOne(into);
            else {
                int part = unitPart(sign);
                if (part == 0) return fails(CANT_STAND, at);
                Algebra.number(0, into);
                into[part] = 1;
            }
            at++;
            return true;
        }

        private static int unitPart(int sign) {
            if (sign == 'x') return 1;
            if (sign == 'y') return 2;
            if (sign == 'p') return 4;
            if (sign == 'm') return 8;
            return sign == 'w' ? WHOLE_UNIT : 0;
        }

        private boolean counted(long[] into) {
            int value = digits();
            if (value == NO_NUMBER) return false;
            Algebra.number(value, into);
            return true;
        }

        private boolean spotted(long[] into) {
            at++;
            int u = coordinate();
            if (u == NO_COORDINATE) return false;
            if (next() != ',') return fails(CANT_STAND, at);
            at++;
            int v = coordinate();
            if (v == NO_COORDINATE) return false;
            Algebra.place(u, v, into);
            return true;
        }

        private int coordinate() {
            boolean below = next() == '-';
            if (below) at++;
            int first = at;
            int value = digits();
            if (value == NO_NUMBER) return NO_COORDINATE;
            if (value > FAR_PLACE) {
                fails(TOO_HIGH, first);
                return NO_COORDINATE;
            }
            return below ? -value : value;
        }

        /** A NUMBER; NO_NUMBER: a FAULT. */
        private int digits() {
            int value = 0;
            int first = at;
            for (int digit = 0; digit < MOST_DIGITS && isDigit(next()); digit++) {
                value = 10 * value + next() - '0';
                at++;
            }
            if (at > first && !isDigit(next())) return value;
            fails(at == first ? CANT_STAND : FIFTH_DIGIT, at);
            return NO_NUMBER;
        }
    }

    /** A set of NORMALS, in the order in which they came. */
    private static final class Pool {
        private final long[][] rows = new long[MANY_COME][PARTS];
        private int held = 0;

        void clear() {
            held = 0;
        }

        int size() {
            return held;
        }

        /** The index is below size(). */
        long[] at(int index) {
            return rows[index];
        }

        void addIfNew(long[] form) {
            for (int index = 0; index < held; index++) {
                if (Algebra.isSame(rows[index], form)) return;
            }
            if (held >= MANY_COME) return;
            Algebra.copy(form, rows[held]);
            held++;
        }
    }

    /** MOTIONS and TURNS; it is told the FORMS or VECTORS by which it goes on. */
    private static final class Mover {
        private static final int MOST_ORDER = 24;
        private final long[][] told = new long[MOST_TOLD][PARTS];
        private int tolds = 0;
        private final Pool pool = new Pool();
        private final long[] way = new long[PARTS];
        private final long[] otherWay = new long[PARTS];
        private final long[] outcome = new long[PARTS];
        private final long[] goal = new long[PARTS];

        void tellNone() {
            tolds = 0;
        }

        void tell(long[] form) {
            if (tolds >= MOST_TOLD) return;
            Algebra.copy(form, told[tolds]);
            tolds++;
        }

        boolean isMotion(long[] form) {
            int kind = Shapes.kindOf(form);
            if (kind != 1 && kind != 3 && kind != 4 && kind != LINE && kind != 40 && kind != 41) return false;
            Algebra.copy(form, way);
            Algebra.reverse(way);
            Algebra.multiply(Algebra.TIMES, form, way, outcome);
            return Shapes.gradesOf(outcome) == 1;
        }

        /** V > X by way of two rows of the caller; false: V TIMES X or all of it is beyond the BOUND. */
        static boolean mirror(long[] one, long[] other, long[] way, long[] otherWay, long[] into) {
            Algebra.multiply(Algebra.TIMES, one, other, way);
            if (!Algebra.isWithinBound(way)) return false;
            Algebra.copy(one, otherWay);
            Algebra.reverse(otherWay);
            Algebra.multiply(Algebra.TIMES, way, otherWay, into);
            return Algebra.isWithinBound(into);
        }

        /** The FORM TURNED, into a row; a VECTOR is its own REVERSE. False: no TURN. */
        boolean turn(long[] form, long[] vector, long[] into) {
            boolean turns = mirror(vector, form, way, otherWay, into);
            if (turns) Algebra.normalise(into);
            return turns;
        }

        /** The MIDDLE of where a MOTION brings a PLACE; false: nowhere. */
        boolean bring(long[] motion, long[] place, Spot spot) {
            if (!mirror(motion, place, way, otherWay, outcome)) return false;
            if (Shapes.kindOf(outcome) != POINT) return false;
            spot.take(outcome);
            return true;
        }

        int orderOf(long[] motion) {
            Algebra.copy(motion, outcome);
            for (int n = 1; n <= MOST_ORDER; n++) {
                Algebra.normalise(outcome);
                if (Shapes.kindOf(outcome) == 1) return n;
                Algebra.copy(outcome, way);
                Algebra.multiply(Algebra.TIMES, way, motion, outcome);
                if (!Algebra.isWithinBound(outcome)) return NO_FORM;
            }
            return NO_FORM;
        }

        int groupSize() {
            pool.clear();
            for (int index = 0; index < tolds; index++) {
                Algebra.copy(told[index], outcome);
                Algebra.normalise(outcome);
                pool.addIfNew(outcome);
            }
            for (int index = 0; index < MANY_IN_GROUP && index < pool.size(); index++) addProducts(pool.at(index));
            return Math.min(pool.size(), MANY_IN_GROUP);
        }

        private void addProducts(long[] form) {
            for (int index = 0; index < tolds && pool.size() < MANY_IN_GROUP; index++) {
                Algebra.multiply(Algebra.TIMES, form, told[index], outcome);
                if (Algebra.isWithinBound(outcome)) {
                    Algebra.normalise(outcome);
                    pool.addIfNew(outcome);
                }
            }
        }

        /** BROUGHT: how many TURNS by the told VECTORS; -2: three are not enough. */
        int turnsBetween(long[] form, long[] other) {
            Algebra.copy(other, goal);
            Algebra.normalise(goal);
            start(form);
            if (hasCome(0)) return 0;
            int from = 0;
            for (int turns = 1; turns <= MOST_TURNS; turns++) {
                int upTo = pool.size();
                addTurned(from, upTo);
                if (hasCome(upTo)) return turns;
                from = upTo;
            }
            return NO_FORM;
        }

        int howManyCome(long[] form, int turns) {
            start(form);
            int from = 0;
            for (int turn = 0; turn < turns; turn++) {
                int upTo = pool.size();
                addTurned(from, upTo);
                from = upTo;
            }
            return pool.size();
        }

        private void start(long[] form) {
            Algebra.copy(form, outcome);
            Algebra.normalise(outcome);
            pool.clear();
            pool.addIfNew(outcome);
        }

        private boolean hasCome(int from) {
            for (int index = from; index < pool.size(); index++) {
                if (Algebra.isSame(pool.at(index), goal)) return true;
            }
            return false;
        }

        private void addTurned(int from, int upTo) {
            for (int index = from; index < upTo; index++) {
                for (int mirror = 0; mirror < tolds; mirror++) {
                    if (turn(pool.at(index), told[mirror], outcome)) pool.addIfNew(outcome);
                }
            }
        }
    }

    /** MIDDLE, HALF and ENDS of FORMS of KIND 20 to 22. */
    private static final class Pairs {
        private final long[] far = new long[PARTS];
        private final long[] way = new long[PARTS];
        private final long[] sum = new long[PARTS];
        private final long[] outcome = new long[PARTS];

        Pairs() {
            far[4] = 1;
            far[8] = 1;
        }

        /** False: a PART on the way is beyond the BOUND, or there is no POINT at its end. */
        boolean findMiddle(long[] form, Spot spot) {
            Algebra.multiply(Algebra.TIMES, form, far, way);
            if (!Algebra.isWithinBound(way)) return false;
            Algebra.multiply(Algebra.TIMES, way, form, outcome);
            return takeOutcome(spot);
        }

        boolean findEnd(long[] form, long root, Spot spot) {
            Algebra.multiply(Algebra.INNER, far, form, way);
            Algebra.copy(form, sum);
            sum[0] += root;
            if (!Algebra.isWithinBound(way) || !Algebra.isWithinBound(sum)) return false;
            Algebra.multiply(Algebra.TIMES, sum, way, outcome);
            return takeOutcome(spot);
        }

        private boolean takeOutcome(Spot spot) {
            if (!Algebra.isWithinBound(outcome) || Shapes.kindOf(outcome) != POINT) return false;
            spot.take(outcome);
            return true;
        }

        long half(long[] form, int what) {
            Algebra.multiply(Algebra.INNER, far, form, way);
            long upper = Algebra.square(form);
            long lower = Algebra.square(way);
            if (lower == 0 || isBeyond(upper) || isBeyond(lower)) return OTHER_KIND;
            return Algebra.lowest(upper, lower, what);
        }
    }

    /** How LETTERS lie to each other, and how many of them are independent. */
    private static final class Meetings {
        private static final long PRIME = 1_000_003L;
        private final long[][] rows = new long[LETTERS][PARTS];
        private final int[] leads = new int[LETTERS];
        private final int[] kinds = new int[LETTERS];
        private final long[] far = new long[PARTS];
        private final long[] two = new long[PARTS];
        private final long[] three = new long[PARTS];
        private final long[] four = new long[PARTS];

        Meetings() {
            far[4] = 1;
            far[8] = 1;
        }

        private void tellKinds(Letters letters) {
            for (int letter = 0; letter < LETTERS; letter++) {
                kinds[letter] = letters.has(letter) ? Shapes.kindOf(letters.form(letter)) : NONE;
            }
        }

        private boolean isBearer(int letter) {
            return kinds[letter] != POINT && Shapes.isObject(kinds[letter]);
        }

        private int pointsOn(Letters letters, int object) {
            int points = 0;
            for (int letter = 0; letter < LETTERS; letter++) {
                if (kinds[letter] == POINT && Shapes.bears(letters.form(object), kinds[object], letters.form(letter))) {
                    points++;
                }
            }
            return points;
        }

        int pointsOnObjects(Letters letters) {
            tellKinds(letters);
            int points = 0;
            for (int letter = 0; letter < LETTERS; letter++) {
                if (isBearer(letter)) points += pointsOn(letters, letter);
            }
            return points;
        }

        int fullestObject(Letters letters) {
            tellKinds(letters);
            int fullest = NO_FORM;
            int most = -1;
            for (int letter = 0; letter < LETTERS; letter++) {
                int points = isBearer(letter) ? pointsOn(letters, letter) : -1;
                if (points > most) {
                    most = points;
                    fullest = letter;
                }
            }
            return fullest;
        }

        /** Threes of POINTS on one LINE, or fours whose OUTER is 0. */
        int dependent(Letters letters, boolean fours) {
            tellKinds(letters);
            int found = 0;
            for (int a = 0; a < LETTERS; a++) {
                for (int b = a + 1; b < LETTERS; b++) {
                    if (areOuter(letters, a, b)) found += dependentBehind(letters, b, fours);
                }
            }
            return found;
        }

        /** Two POINTS whose OUTER, within the BOUND, is put into the row two. */
        private boolean areOuter(Letters letters, int a, int b) {
            if (kinds[a] != POINT || kinds[b] != POINT) return false;
            Algebra.multiply(Algebra.OUTER, letters.form(a), letters.form(b), two);
            return Algebra.isWithinBound(two);
        }

        private int dependentBehind(Letters letters, int b, boolean fours) {
            int found = 0;
            for (int c = b + 1; c < LETTERS; c++) {
                if (kinds[c] == POINT) {
                    Algebra.multiply(Algebra.OUTER, two, letters.form(c), three);
                    if (Algebra.isWithinBound(three)) {
                        if (fours) found += fourthsBehind(letters, c);
                        else if (Algebra.isOuterZero(three, far)) found++;
                    }
                }
            }
            return found;
        }

        private int fourthsBehind(Letters letters, int c) {
            int found = 0;
            for (int d = c + 1; d < LETTERS; d++) {
                if (kinds[d] == POINT && Algebra.isOuterZero(three, letters.form(d))) found++;
            }
            return found;
        }

        boolean areLike(long[] one, long[] other) {
            if (Algebra.isZero(one) || Algebra.isZero(other)) return false;
            Algebra.copy(one, three);
            Algebra.copy(other, four);
            Algebra.normalise(three);
            Algebra.normalise(four);
            return Algebra.isSame(three, four);
        }

        int likePairs(Letters letters) {
            int found = 0;
            for (int a = 0; a < LETTERS; a++) {
                for (int b = a + 1; b < LETTERS; b++) {
                    if (letters.has(a) && letters.has(b) && areLike(letters.form(a), letters.form(b))) found++;
                }
            }
            return found;
        }

        /** RANK of the LETTERS that the bits name. */
        int independent(Letters letters, int bits) {
            int rank = 0;
            for (int letter = 0; letter < LETTERS; letter++) {
                if (isIn(bits, letter) && letters.has(letter) && isIndependent(letters.form(letter), rank)) rank++;
            }
            return rank;
        }

        /** Puts the FORM, freed of the first PARTS of so many rows, behind these; false: nothing is left of it. */
        private boolean isIndependent(long[] form, int rank) {
            if (rank < 0 || rank >= LETTERS) return false;
            long[] rest = rows[rank];
            for (int part = 0; part < PARTS; part++) rest[part] = Math.floorMod(form[part], PRIME);
            for (int index = 0; index < rank; index++) free(rest, rows[index], leads[index]);
            for (int part = 0; part < PARTS; part++) {
                if (rest[part] != 0) {
                    leads[rank] = part;
                    return true;
                }
            }
            return false;
        }

        // Both rows are multiplied, so that nothing has to be divided modulo the prime.
        private static void free(long[] row, long[] by, int lead) {
            if (lead < 0 || lead >= PARTS) return;
            long factor = row[lead];
            long other = by[lead];
            for (int part = 0; part < PARTS; part++) {
                row[part] = Math.floorMod(row[part] * other - by[part] * factor, PRIME);
            }
        }
    }
}
