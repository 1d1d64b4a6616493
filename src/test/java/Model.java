import java.math.BigInteger;
import java.util.ArrayDeque;
import java.util.ArrayList;
import java.util.Arrays;
import java.util.Deque;
import java.util.HashSet;
import java.util.List;
import java.util.Set;

/**
 * The document once more, slowly and in another way: whole numbers without a limit, units as words that are
 * sorted, faults that are thrown. ModelTest compares the class with it.
 */
final class Model {
    private static final BigInteger BOUND = BigInteger.valueOf(100_000_000);
    private static final long NO_SUCH = -2_000_000_000_000_000_000L;
    private static final long OTHER_KIND = -3_000_000_000_000_000_000L;
    private static final long NOT_WHOLE = -1_000_000_000_000_000_000L;
    private static final int[][] SIGN = new int[16][16];

    static {
        for (int a = 0; a < 16; a++) {
            for (int b = 0; b < 16; b++) SIGN[a][b] = signOfWord(word(a) + word(b));
        }
    }

    private static String word(int part) {
        StringBuilder word = new StringBuilder();
        for (int unit = 0; unit < 4; unit++) if ((part >> unit & 1) != 0) word.append("0123".charAt(unit));
        return word.toString();
    }

    private static int signOfWord(String word) {
        char[] units = word.toCharArray();
        int sign = 1;
        for (boolean changed = true; changed; ) {
            changed = false;
            for (int i = 0; i + 1 < units.length; i++) {
                if (units[i] > units[i + 1]) {
                    char unit = units[i];
                    units[i] = units[i + 1];
                    units[i + 1] = unit;
                    sign = -sign;
                    changed = true;
                }
            }
        }
        for (int i = 0; i + 1 < units.length; i++) if (units[i] == '3' && units[i + 1] == '3') sign = -sign;
        return sign;
    }

    /** Sixteen PARTS; never changed once made. */
    private static final class Form {
        final BigInteger[] parts = new BigInteger[16];

        Form() {
            Arrays.fill(parts, BigInteger.ZERO);
        }

        static Form of(long number, int part) {
            Form form = new Form();
            form.parts[part] = BigInteger.valueOf(number);
            return form;
        }

        Form plus(Form other) {
            Form sum = new Form();
            for (int i = 0; i < 16; i++) sum.parts[i] = parts[i].add(other.parts[i]);
            return sum;
        }

        Form minus() {
            Form form = new Form();
            for (int i = 0; i < 16; i++) form.parts[i] = parts[i].negate();
            return form;
        }

        Form product(char sign, Form other) {
            Form form = new Form();
            for (int a = 0; a < 16; a++) {
                for (int b = 0; b < 16; b++) {
                    if (parts[a].signum() == 0 || other.parts[b].signum() == 0) continue;
                    if (sign == '^' && (a & b) != 0) continue;
                    if (sign == '.' && (a & ~b) != 0) continue;
                    BigInteger term = parts[a].multiply(other.parts[b]).multiply(BigInteger.valueOf(SIGN[a][b]));
                    form.parts[a ^ b] = form.parts[a ^ b].add(term);
                }
            }
            return form;
        }

        Form times(Form other) {
            return product('*', other);
        }

        Form outer(Form other) {
            return product('^', other);
        }

        Form inner(Form other) {
            return product('.', other);
        }

        Form reverse() {
            Form form = new Form();
            for (int i = 0; i < 16; i++) {
                int units = word(i).length();
                form.parts[i] = units == 2 || units == 3 ? parts[i].negate() : parts[i];
            }
            return form;
        }

        Form dual() {
            return times(of(-1, 15));
        }

        Form meet(Form other) {
            return dual().outer(other.dual()).times(of(1, 15));
        }

        Form grade(int grade) {
            Form form = new Form();
            for (int i = 0; i < 16; i++) if (word(i).length() == grade) form.parts[i] = parts[i];
            return form;
        }

        Form normal() {
            BigInteger divisor = BigInteger.ZERO;
            BigInteger first = BigInteger.ZERO;
            for (int i = 0; i < 16; i++) {
                divisor = divisor.gcd(parts[i]);
                if (first.signum() == 0) first = parts[i];
            }
            if (first.signum() == 0) return this;
            if (first.signum() < 0) divisor = divisor.negate();
            Form form = new Form();
            for (int i = 0; i < 16; i++) form.parts[i] = parts[i].divide(divisor);
            return form;
        }

        boolean beyond() {
            for (BigInteger part : parts) if (part.abs().compareTo(BOUND) > 0) return true;
            return false;
        }

        boolean isZero() {
            for (BigInteger part : parts) if (part.signum() != 0) return false;
            return true;
        }

        Set<Integer> grades() {
            Set<Integer> grades = new HashSet<>();
            for (int i = 0; i < 16; i++) if (parts[i].signum() != 0) grades.add(word(i).length());
            return grades;
        }

        BigInteger square() {
            return times(this).parts[0];
        }

        @Override
        public boolean equals(Object other) {
            return other instanceof Form && Arrays.equals(parts, ((Form) other).parts);
        }

        @Override
        public int hashCode() {
            return Arrays.hashCode(parts);
        }

        int kind() {
            Set<Integer> grades = grades();
            if (grades.isEmpty()) return 0;
            if (grades.equals(Set.of(0))) return 1;
            if (grades.equals(Set.of(1))) {
                BigInteger a = parts[1];
                BigInteger b = parts[2];
                BigInteger c = parts[4];
                BigInteger d = parts[8];
                BigInteger q = a.multiply(a).add(b.multiply(b)).add(c.multiply(c)).subtract(d.multiply(d));
                if (c.equals(d)) return a.signum() != 0 || b.signum() != 0 ? 6 : 5;
                return q.signum() == 0 ? 2 : q.signum() > 0 ? 3 : 4;
            }
            if (grades.equals(Set.of(3))) return 10 + dual().kind();
            if (grades.equals(Set.of(2))) {
                if (!outer(this).isZero()) return 9;
                if (FAR.outer(this).isZero()) return 8;
                int sign = square().signum();
                return sign > 0 ? 20 : sign == 0 ? 21 : 22;
            }
            if (grades.equals(Set.of(4))) return 30;
            if (Set.of(0, 2, 4).containsAll(grades)) return 40;
            if (grades.equals(Set.of(1, 3))) return 41;
            return 42;
        }

        boolean isObject() {
            return Set.of(2, 3, 4, 5, 6, 12, 13, 14, 15, 16).contains(kind());
        }

        boolean isMirror() {
            return Set.of(3, 6, 13, 16).contains(kind());
        }

        boolean hasMiddle() {
            return Set.of(2, 3, 4, 12, 13, 14).contains(kind());
        }

        Form vector() {
            return kind() < 10 ? this : dual();
        }

        boolean isMotion() {
            if (!Set.of(1, 3, 4, 6, 40, 41).contains(kind())) return false;
            return times(reverse()).grades().equals(Set.of(0));
        }

        /** MIDDLE: three numbers. */
        BigInteger[] middle() {
            BigInteger e = vector().parts[4].subtract(vector().parts[8]);
            return lowest(vector().parts[1], vector().parts[2], e.negate());
        }

        BigInteger[] size() {
            BigInteger e = vector().parts[4].subtract(vector().parts[8]);
            return lowest(vector().square(), e.multiply(e));
        }
    }

    private static final Form FAR = Form.of(1, 4).plus(Form.of(1, 8));

    private static Form place(int u, int v) {
        return Form.of(2 * u, 1).plus(Form.of(2 * v, 2)).plus(Form.of(u * u + v * v - 1, 4))
            .plus(Form.of(u * u + v * v + 1, 8));
    }

    /** In lowest terms, the last one above 0. */
    private static BigInteger[] lowest(BigInteger... numbers) {
        BigInteger divisor = BigInteger.ZERO;
        for (BigInteger number : numbers) divisor = divisor.gcd(number);
        if (numbers[numbers.length - 1].signum() < 0) divisor = divisor.negate();
        BigInteger[] least = new BigInteger[numbers.length];
        for (int i = 0; i < numbers.length; i++) least[i] = numbers[i].divide(divisor);
        return least;
    }

    private static boolean above(long limit, BigInteger... numbers) {
        for (BigInteger number : numbers) if (number.abs().compareTo(BigInteger.valueOf(limit)) > 0) return true;
        return false;
    }

    private static final class Fault extends Exception {
        private static final long serialVersionUID = 1;
        final int answer;

        Fault(int number, int place) {
            super("fault");
            answer = -1000 * number - place;
        }
    }

    /** WORK, on a copy of the LETTERS. */
    private static final class Work {
        final Form[] letters;
        private final String text;
        private int at = 0;

        Work(String text, Form[] ahead) {
            this.text = text;
            letters = ahead.clone();
        }

        private char look() {
            return at < text.length() ? text.charAt(at) : '\uffff';
        }

        private char take(String allowed) throws Fault {
            if (at >= text.length() || allowed.indexOf(look()) < 0) throw new Fault(1, at);
            return text.charAt(at++);
        }

        int steps() throws Fault {
            int steps = 0;
            do {
                if (steps > 0) take(";");
                if (steps == 12) throw new Fault(4, at);
                int letter = take("ABCDEFGHIJKL") - 'A';
                take("=");
                letters[letter] = sum(0);
                steps++;
            } while (at < text.length());
            return steps;
        }

        private Form sum(int open) throws Fault {
            Form sum = term(open);
            while (look() == '+' || look() == '-') {
                int place = at;
                boolean less = take("+-") == '-';
                Form term = term(open);
                sum = sum.plus(less ? term.minus() : term);
                if (sum.beyond()) throw new Fault(8, place);
            }
            return sum;
        }

        private Form term(int open) throws Fault {
            Form term = factor(open);
            while (at < text.length() && "*^.&>".indexOf(look()) >= 0) {
                int place = at;
                char sign = take("*^.&>");
                Form factor = factor(open);
                if (sign == '>') {
                    Form half = term.times(factor);
                    if (half.beyond()) throw new Fault(8, place);
                    term = half.times(term.reverse());
                } else if (sign == '&') {
                    if (term.dual().outer(factor.dual()).beyond()) throw new Fault(8, place);
                    term = term.meet(factor);
                } else {
                    term = term.product(sign, factor);
                }
                if (term.beyond()) throw new Fault(8, place);
            }
            return term;
        }

        private Form factor(int open) throws Fault {
            int place = at;
            char sign = take("0123456789ABCDEFGHIJKLxypmwf@~#!-g(");
            if ("(~#!-g".indexOf(sign) >= 0) {
                if (open == 6) throw new Fault(5, place);
                return opened(sign, open + 1);
            }
            if (sign >= 'A' && sign <= 'L') {
                if (letters[sign - 'A'] == null) throw new Fault(7, place);
                return letters[sign - 'A'];
            }
            switch (sign) {
                case 'x': return Form.of(1, 1);
                case 'y': return Form.of(1, 2);
                case 'p': return Form.of(1, 4);
                case 'm': return Form.of(1, 8);
                case 'w': return Form.of(1, 15);
                case 'f': return FAR;
                case '@':
                    int u = coordinate();
                    take(",");
                    return place(u, coordinate());
                default:
                    at = place;
                    return Form.of(number(), 0);
            }
        }

        private Form opened(char sign, int open) throws Fault {
            if (sign == '(') {
                Form form = sum(open);
                take(")");
                return form;
            }
            if (sign == 'g') {
                int place = at;
                int grade = take("0123456789") - '0';
                if (grade > 4) throw new Fault(3, place);
                return factor(open).grade(grade);
            }
            Form form = factor(open);
            return sign == '~' ? form.reverse() : sign == '#' ? form.dual() : sign == '!' ? form.normal() : form.minus();
        }

        private int coordinate() throws Fault {
            boolean below = look() == '-';
            if (below) at++;
            int first = at;
            int number = number();
            if (number > 99) throw new Fault(3, first);
            return below ? -number : number;
        }

        private int number() throws Fault {
            StringBuilder digits = new StringBuilder().append(take("0123456789"));
            while (look() >= '0' && look() <= '9') {
                if (digits.length() == 4) throw new Fault(2, at);
                digits.append(take("0123456789"));
            }
            return Integer.parseInt(digits.toString());
        }
    }

    private final StringBuilder tape = new StringBuilder();
    private String book = "";
    private Form[] letters = new Form[12];
    private Form[] kept = null;
    private int keptX = 0;
    private int x = 1;
    private final Deque<Form[]> past = new ArrayDeque<>();

    private Form at(int letter) {
        return letter < 0 || letter > 11 ? null : letters[letter];
    }

    private static boolean in(int number, int low, int high) {
        return number >= low && number <= high;
    }

    private void remember() {
        past.addLast(letters.clone());
        if (past.size() > 8) past.removeFirst();
    }

    private int standing() {
        int standing = 0;
        for (Form form : letters) if (form != null) standing++;
        return standing;
    }

    int feed(int a, int b, int c, int d, int e) {
        if (tape.length() + 20 > 140) return -1;
        for (int word : new int[] {a, b, c, d, e}) {
            for (int i = 3; i >= 0; i--) tape.append((char) (word >>> 8 * i & 255));
        }
        return tape.length();
    }

    private String taken(int n) {
        String text = tape.substring(0, n);
        tape.setLength(0);
        return text;
    }

    private int perform(String text) {
        Work work = new Work(text, letters);
        try {
            int steps = work.steps();
            remember();
            letters = work.letters;
            return steps;
        } catch (Fault fault) {
            return fault.answer;
        }
    }

    int work(int n) {
        return in(n, 1, 120) && n <= tape.length() ? perform(taken(n)) : -1;
    }

    boolean drop(int letter) {
        if (at(letter) == null) return false;
        remember();
        letters[letter] = null;
        return true;
    }

    private int next() {
        x = (int) ((25173L * x + 13849) % 65536);
        return x % 21 - 10;
    }

    private void draw(int n) {
        for (int letter = 0; letter < n; letter++) {
            int u = next();
            letters[letter] = place(u, next());
        }
    }

    int draws(int n) {
        if (!in(n, 1, 6)) return -1;
        remember();
        draw(n);
        return standing();
    }

    int part(int letter, int part) {
        return at(letter) == null || !in(part, 0, 15) ? -1000000000 : at(letter).parts[part].intValueExact();
    }

    int letters(int what) {
        if (!in(what, 0, 4)) return -1;
        int bits = 0;
        for (int i = 0; i < 12; i++) {
            Form form = letters[i];
            if (form == null) continue;
            boolean is = what == 0 || what == 1 && form.kind() == 2 || what == 2 && form.isObject()
                || what == 3 && form.isMirror() || what == 4 && form.isMotion();
            if (is) bits += 1 << i;
        }
        return bits;
    }

    int formIs(int letter, int what) {
        if (at(letter) == null || !in(what, 0, 4)) return -1;
        Form form = at(letter);
        if (what == 0) return form.kind();
        if (what == 1) return form.grades().stream().mapToInt(grade -> 1 << grade).sum();
        if (what == 2) return form.isMotion() ? 1 : 0;
        if (what == 4) return (int) Arrays.stream(form.parts).filter(part -> part.signum() != 0).count();
        if (!form.isMotion()) return -3;
        Form power = form.normal();
        for (int n = 1; n <= 24; n++) {
            if (power.kind() == 1) return n;
            Form next = power.times(form);
            if (next.beyond()) return -2;
            power = next.normal();
        }
        return -2;
    }

    long middle(int letter, int what) {
        if (at(letter) == null || !in(what, 0, 4)) return NO_SUCH;
        Form form = at(letter);
        if (!form.hasMiddle()) return OTHER_KIND;
        return (what < 3 ? form.middle()[what] : form.size()[what - 3]).longValueExact();
    }

    int line(int letter, int what) {
        if (at(letter) == null || !in(what, 0, 2) || !Set.of(6, 16).contains(at(letter).kind())) return -1000000000;
        Form vector = at(letter).vector();
        BigInteger a = vector.parts[1];
        BigInteger b = vector.parts[2];
        BigInteger[] numbers = {a, b, vector.parts[4]};
        BigInteger divisor = a.gcd(b).gcd(vector.parts[4]);
        if (a.signum() < 0 || a.signum() == 0 && b.signum() < 0) divisor = divisor.negate();
        return numbers[what].divide(divisor).intValueExact();
    }

    private static boolean bears(Form form, Form place) {
        return form.isObject() ? place.inner(form.vector()).parts[0].signum() == 0 : place.outer(form).isZero();
    }

    private static boolean canBear(Form form) {
        return form.isObject() || Set.of(8, 20, 21, 22).contains(form.kind());
    }

    int on(int letter, int u, int v) {
        if (at(letter) == null || !in(u, -99, 99) || !in(v, -99, 99)) return -1;
        if (!canBear(at(letter))) return -3;
        return bears(at(letter), place(u, v)) ? 1 : 0;
    }

    long product(int kind, int one, int other, int part) {
        if (at(one) == null || at(other) == null || !in(kind, 0, 3) || !in(part, 0, 15)) return NO_SUCH;
        Form form = kind == 3 ? at(one).meet(at(other)) : at(one).product("*^.".charAt(kind), at(other));
        return form.parts[part].longValueExact();
    }

    long cosine(int one, int other, int what) {
        if (at(one) == null || at(other) == null || !in(what, 0, 1)) return NO_SUCH;
        if (!at(one).isObject() || !at(other).isObject()) return NO_SUCH;
        Form s = at(one).vector();
        Form t = at(other).vector();
        BigInteger inner = s.inner(t).parts[0];
        if (s.square().signum() <= 0 || t.square().signum() <= 0) return NO_SUCH;
        if (above(100000000, inner, s.square(), t.square())) return NO_SUCH;
        return lowest(inner.multiply(inner).multiply(BigInteger.valueOf(inner.signum())),
            s.square().multiply(t.square()))[what].longValueExact();
    }

    private static BigInteger[] apart(BigInteger[] one, BigInteger[] other) {
        BigInteger across = one[0].multiply(other[2]).subtract(other[0].multiply(one[2]));
        BigInteger up = one[1].multiply(other[2]).subtract(other[1].multiply(one[2]));
        return lowest(across.multiply(across).add(up.multiply(up)), one[2].multiply(other[2]).pow(2));
    }

    long distance(int one, int other, int what) {
        if (at(one) == null || at(other) == null || !in(what, 0, 1)) return NO_SUCH;
        if (at(one).kind() != 2 || at(other).kind() != 2) return NO_SUCH;
        if (above(1000, at(one).middle()) || above(1000, at(other).middle())) return NO_SUCH;
        return apart(at(one).middle(), at(other).middle())[what].longValueExact();
    }

    private static long ended(int what, Form... way) {
        for (Form form : way) if (form.beyond()) return OTHER_KIND;
        Form last = way[way.length - 1];
        return last.kind() == 2 ? last.middle()[what].longValueExact() : OTHER_KIND;
    }

    long pair(int letter, int what) {
        if (at(letter) == null || !in(what, 0, 10)) return NO_SUCH;
        Form form = at(letter);
        if (!Set.of(20, 21, 22).contains(form.kind())) return OTHER_KIND;
        Form inner = FAR.inner(form);
        if (what < 3) return ended(what, form.times(FAR), form.times(FAR).times(form));
        if (what < 5) {
            BigInteger upper = form.square();
            BigInteger lower = inner.square();
            if (above(100000000, upper, lower) || lower.signum() == 0) return OTHER_KIND;
            return lowest(upper, lower)[what - 3].longValueExact();
        }
        if (form.kind() != 20) return OTHER_KIND;
        BigInteger root = form.square().sqrt();
        if (!root.multiply(root).equals(form.square())) return NOT_WHOLE;
        Form number = Form.of(what < 8 ? root.longValueExact() : -root.longValueExact(), 0);
        return ended((what - 5) % 3, inner, form.plus(number), form.plus(number).times(inner));
    }

    long power(int letter, int u, int v, int what) {
        if (at(letter) == null || !in(u, -99, 99) || !in(v, -99, 99) || !in(what, 0, 1)) return NO_SUCH;
        Form form = at(letter);
        if (!form.hasMiddle() || above(10000, form.middle()) || above(10000, form.size())) return OTHER_KIND;
        BigInteger[] square = apart(form.middle(), place(u, v).middle());
        BigInteger[] size = form.size();
        return lowest(square[0].multiply(size[1]).subtract(size[0].multiply(square[1])),
            square[1].multiply(size[1]))[what].longValueExact();
    }

    int stand(int one, int other) {
        if (at(one) == null || at(other) == null) return -1;
        if (!at(one).isMirror() || !at(other).isMirror()) return -3;
        Form s = at(one).vector();
        Form t = at(other).vector();
        BigInteger inner = s.inner(t).parts[0];
        if (above(100000000, inner, s.square(), t.square())) return -4;
        return inner.pow(2).compareTo(s.square().multiply(t.square())) + 1;
    }

    int bundle(int one, int other, int third) {
        if (at(one) == null || at(other) == null || at(third) == null) return -1;
        if (!at(one).isMirror() || !at(other).isMirror() || !at(third).isMirror()) return -3;
        Form outer = at(one).vector().normal().outer(at(other).vector().normal()).normal();
        if (outer.beyond()) return -4;
        return outer.outer(at(third).vector()).isZero() ? 1 : 0;
    }

    /** The FORMS that the bits name; null: no such ones. */
    private List<Form> named(int bits, int most) {
        if (bits < 1 || bits > 4095 || Integer.bitCount(bits) > most) return null;
        List<Form> named = new ArrayList<>();
        for (int i = 0; i < 12; i++) {
            if ((bits >> i) % 2 == 0) continue;
            if (letters[i] == null) return null;
            named.add(letters[i]);
        }
        return named;
    }

    int group(int motions) {
        List<Form> told = named(motions, 6);
        if (told == null) return -1;
        Set<Form> group = new HashSet<>();
        Deque<Form> open = new ArrayDeque<>();
        for (Form form : told) {
            if (!form.isMotion()) return -3;
            if (group.add(form.normal())) open.add(form.normal());
        }
        while (!open.isEmpty() && group.size() < 200) {
            Form form = open.remove();
            for (Form by : told) {
                Form product = form.times(by);
                if (!product.beyond() && group.add(product.normal())) open.add(product.normal());
            }
        }
        return Math.min(group.size(), 200);
    }

    int rank(int bits) {
        List<Form> told = named(bits, 12);
        if (told == null) return -1;
        BigInteger prime = BigInteger.valueOf(1000003);
        BigInteger[][] rows = new BigInteger[told.size()][16];
        for (int i = 0; i < rows.length; i++) {
            for (int j = 0; j < 16; j++) rows[i][j] = told.get(i).parts[j].mod(prime);
        }
        int rank = 0;
        for (int column = 0; column < 16; column++) {
            int pivot = rank;
            while (pivot < rows.length && rows[pivot][column].signum() == 0) pivot++;
            if (pivot == rows.length) continue;
            BigInteger[] row = rows[pivot];
            rows[pivot] = rows[rank];
            rows[rank] = row;
            for (int i = rank + 1; i < rows.length; i++) {
                BigInteger factor = rows[i][column].multiply(row[column].modInverse(prime)).mod(prime);
                for (int j = 0; j < 16; j++) rows[i][j] = rows[i][j].subtract(factor.multiply(row[j])).mod(prime);
            }
            rank++;
        }
        return rank;
    }

    int row(int letter, int v) {
        if (at(letter) == null || !in(v, -99, 99)) return -1;
        if (!canBear(at(letter))) return -3;
        int bits = 0;
        for (int u = -15; u <= 15; u++) if (bears(at(letter), place(u, v))) bits += 1 << u + 15;
        return bits;
    }

    int whole(int letter) {
        if (at(letter) == null) return -1;
        if (!at(letter).isObject()) return -3;
        Form vector = at(letter).vector();
        int places = 0;
        for (int u = -99; u <= 99; u++) {
            for (int v = -99; v <= 99; v++) {
                if (place(u, v).inner(vector).parts[0].signum() == 0) places++;
            }
        }
        return places;
    }

    int book(int n) {
        if (!in(n, 0, 120) || n > tape.length()) return -1;
        book = taken(n);
        return n;
    }

    int run() {
        return book.isEmpty() ? -2 : perform(book);
    }

    int trials(int drawn, int n, int letter, int kind) {
        if (!in(drawn, 0, 6) || !in(n, 1, 20) || !in(letter, 0, 11) || !in(kind, -1, 42)) return -1;
        if (book.isEmpty()) return -2;
        int ahead = x;
        int hits = 0;
        Form[] old = letters;
        for (int i = 0; i < n; i++) {
            letters = old.clone();
            draw(drawn);
            Work work = new Work(book, letters);
            try {
                work.steps();
                if (work.letters[letter] != null && work.letters[letter].kind() == kind) hits++;
            } catch (Fault fault) {
                if (kind == -1) hits++;
            }
        }
        letters = old;
        x = ahead;
        return hits;
    }

    int like(int one, int other) {
        if (at(one) == null || at(other) == null) return -1;
        if (at(one).isZero() || at(other).isZero()) return -2;
        return at(one).normal().equals(at(other).normal()) ? 1 : 0;
    }

    int lies(int point, int object) {
        if (at(point) == null || at(object) == null) return -1;
        if (at(point).kind() != 2 || !at(object).isObject()) return -3;
        return at(point).inner(at(object).vector()).parts[0].signum() == 0 ? 1 : 0;
    }

    int meetings(int what) {
        if (!in(what, 0, 4)) return -1;
        List<Form> points = new ArrayList<>();
        for (Form form : letters) if (form != null && form.kind() == 2) points.add(form);
        if (what == 1 || what == 2) return dependent(points, what == 2);
        int pairs = 0;
        int best = -2;
        int most = -1;
        for (int i = 0; i < 12; i++) {
            Form form = letters[i];
            if (form == null) continue;
            if (what == 3) {
                for (int j = 0; j < i; j++) if (like(i, j) == 1) pairs++;
            } else if (form.isObject() && form.kind() != 2) {
                int count = 0;
                for (Form point : points) if (point.inner(form.vector()).isZero()) count++;
                pairs += count;
                if (count > most) best = i;
                most = Math.max(most, count);
            }
        }
        return what == 4 ? best : pairs;
    }

    private static int dependent(List<Form> points, boolean fours) {
        int found = 0;
        int n = points.size();
        for (int a = 0; a < n; a++) {
            for (int b = a + 1; b < n; b++) {
                for (int c = b + 1; c < n; c++) {
                    Form two = points.get(a).outer(points.get(b));
                    Form three = two.outer(points.get(c));
                    if (two.beyond() || three.beyond()) continue;
                    if (!fours && three.outer(FAR).isZero()) found++;
                    for (int d = c + 1; fours && d < n; d++) if (three.outer(points.get(d)).isZero()) found++;
                }
            }
        }
        return found;
    }

    /** null: no TURN. */
    private static Form turn(Form form, Form mirror) {
        Form half = mirror.vector().times(form);
        Form whole = half.times(mirror.vector());
        return half.beyond() || whole.beyond() ? null : whole.normal();
    }

    int turned(int letter, int mirror, int part) {
        if (at(letter) == null || at(mirror) == null || !in(part, 0, 15) || !at(mirror).isMirror()) return -1000000000;
        Form turned = turn(at(letter), at(mirror));
        return turned == null ? -1000000000 : turned.parts[part].intValueExact();
    }

    long brings(int letter, int u, int v, int what) {
        if (at(letter) == null || !in(u, -99, 99) || !in(v, -99, 99) || !in(what, 0, 2)) return NO_SUCH;
        if (!at(letter).isMotion()) return OTHER_KIND;
        Form half = at(letter).times(place(u, v));
        return ended(what, half, half.times(at(letter).reverse()));
    }

    /** The NORMALS that come with so many TURNS at most, as one set for each number of them. */
    private static List<Set<Form>> turns(Form form, List<Form> mirrors, int n) {
        List<Set<Form>> sets = new ArrayList<>();
        sets.add(new HashSet<>(Set.of(form.normal())));
        for (int i = 0; i < n; i++) {
            Set<Form> next = new HashSet<>(sets.get(i));
            for (Form from : sets.get(i)) {
                for (Form mirror : mirrors) {
                    Form turned = turn(from, mirror);
                    if (turned != null) next.add(turned);
                }
            }
            sets.add(next);
        }
        return sets;
    }

    int brought(int one, int other, int mirrors) {
        List<Form> told = named(mirrors, 6);
        if (at(one) == null || at(other) == null || told == null) return -1;
        for (Form mirror : told) if (!mirror.isMirror()) return -3;
        List<Set<Form>> sets = turns(at(one), told, 3);
        for (int n = 0; n <= 3; n++) if (sets.get(n).contains(at(other).normal())) return n;
        return -2;
    }

    int come(int letter, int mirrors, int n) {
        List<Form> told = named(mirrors, 6);
        if (at(letter) == null || told == null || !in(n, 0, 3)) return -1;
        for (Form mirror : told) if (!mirror.isMirror()) return -3;
        return Math.min(300, turns(at(letter), told, n).get(n).size());
    }

    int back() {
        if (past.isEmpty()) return -1;
        letters = past.removeLast();
        return past.size();
    }

    boolean seed(int x) {
        if (!in(x, 0, 65535)) return false;
        this.x = x;
        return true;
    }

    int keep() {
        kept = letters.clone();
        keptX = x;
        return standing();
    }

    boolean undo() {
        if (kept == null) return false;
        letters = kept.clone();
        x = keptX;
        past.clear();
        return true;
    }

    int check(int n) {
        if (!in(n, 0, 12) || n > tape.length()) return -2;
        String kinds = taken(n);
        for (int i = 0; i < n; i++) if (kinds.charAt(i) != (letters[i] == null ? 255 : letters[i].kind())) return i;
        return -1;
    }

    int count(int what) {
        return what == 0 ? standing() : what == 1 ? past.size() : what == 2 ? tape.length() : what == 3 ? x : -1;
    }
}
