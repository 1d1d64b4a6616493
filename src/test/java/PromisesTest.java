/** Each promise by hand: ordinary inputs, the edges that the document names, wrong inputs. */
public final class PromisesTest extends Asking {
    public static void main(String[] args) {
        newObject();
        feeds();
        workNumbers();
        workFaults();
        workFaultsInOrder();
        workDepths();
        workSteps();
        workBounds();
        workForms();
        drops();
        draws();
        parts();
        letters();
        kinds();
        motionsAndOrders();
        middles();
        lines();
        ons();
        products();
        cosines();
        distances();
        pairs();
        powers();
        stands();
        bundles();
        groups();
        ranks();
        rows();
        wholes();
        books();
        runs();
        trials();
        likes();
        lies();
        meetings();
        turneds();
        brings();
        broughts();
        comes();
        backs();
        seeds();
        keepsAndUndoes();
        checks();
        counts();
        close();
    }

    /** The FORM of an E has just these PARTS: pairs of a PART and its number. */
    private static void form(String expression, int... numbers) {
        BladesBench bench = made("A=" + expression);
        int[] parts = new int[16];
        for (int i = 0; i + 1 < numbers.length; i += 2) parts[numbers[i]] = numbers[i + 1];
        for (int part = 0; part < 16; part++) due(expression + ", part " + part, bench.part(0, part), parts[part]);
    }

    // ---- promise 1
    private static void newObject() {
        BladesBench bench = new BladesBench();
        int[] counts = {0, 0, 0, 1};
        for (int what = 0; what < 4; what++) due("new count " + what, bench.count(what), counts[what]);
        due("new letters", bench.letters(0), 0);
        due("new run", bench.run(), -2);
        due("new undo", bench.undo(), false);
        for (int letter = 0; letter < 12; letter++) due("new part", bench.part(letter, 0), NO_PART);
        due("NONE", BladesBench.NONE, -1);
    }

    // ---- promise 2
    private static void feeds() {
        BladesBench bench = new BladesBench();
        for (int fed = 20; fed <= 140; fed += 20) due("feed", bench.feed(0x413d3132, 0x333b423d, 0x79000000, 1, -1), fed);
        due("feed beyond 140", bench.feed(1, 2, 3, 4, 5), -1);
        due("the tape stays", bench.count(2), 140);
        due("the highest byte first", bench.work(9), 2);
        due("the tape is empty", bench.count(2), 0);
        due("A", bench.part(0, 0), 123);
        due("B", bench.part(1, 2), 1);
        bench.feed(-1, -1, -1, -1, -1);
        due("bytes above 127", check(new BladesBench(), 255, 255), -1);
        due("bytes above 127", bench.check(1), 0);
    }

    // ---- promise 3
    private static void workNumbers() {
        BladesBench bench = new BladesBench();
        due("work 1 of nothing", bench.work(1), -1);
        lay(bench, "A=1;B=2");
        due("work 0", bench.work(0), -1);
        due("work 121", bench.work(121), -1);
        due("work -5", bench.work(-5), -1);
        due("work 21 of 20", bench.work(21), -1);
        due("work lowest", bench.work(Integer.MIN_VALUE), -1);
        due("the tape stays", bench.count(2), 20);
        due("work 3 of 7", bench.work(3), 1);
        due("only the first three bytes", bench.letters(0), 1);
        due("the tape is empty", bench.count(2), 0);
        lay(bench, "A=2;B=3;C=$");
        due("a FAULT", bench.work(11), -1010);
        due("the tape is empty behind a FAULT", bench.count(2), 0);
        due("a FAULT does nothing", bench.letters(0), 1);
        due("a FAULT does nothing", bench.part(0, 0), 1);
        due("a FAULT is not taken BACK", bench.count(1), 1);
        StringBuilder longest = new StringBuilder("A=1");
        while (longest.length() < 119) longest.append("+1");
        due("119 bytes", work(bench, longest.toString()), 1);
        due("59 ones", bench.part(0, 0), 59);
        longest.append("+");
        due("120 bytes", work(bench, longest.toString()), -1120);
        for (int fed = 0; fed < 7; fed++) bench.feed(0, 0, 0, 0, 0);
        due("work 121 of 140", bench.work(121), -1);
        due("book 121 of 140", bench.book(121), -1);
        due("check 13 of 140", bench.check(13), -2);
        due("the tape stays", bench.count(2), 140);
        due("work 120 of 140", bench.work(120), -1000);
        due("the tape is empty", bench.count(2), 0);
    }

    private static void workFaults() {
        answers("a", -1000);
        answers("A", -1001);
        answers("A=", -1002);
        answers("M=1", -1000);
        answers("@=1", -1000);
        answers("A==1", -1002);
        answers("A:1", -1001);
        answers("A=1;", -1004);
        answers("A=1;;", -1004);
        answers("A=1;B", -1005);
        answers("A= 1", -1002);
        answers("A=1 ", -1003);
        answers("A=()", -1003);
        answers("A=(1", -1004);
        answers("A=(1;", -1004);
        answers("A=1)", -1003);
        answers("A=1(", -1003);
        answers("A=+1", -1002);
        answers("A=1++1", -1004);
        answers("A=1+*1", -1004);
        answers("A=1*", -1004);
        answers("A=1**1", -1004);
        answers("A=xx", -1003);
        answers("A=2x", -1003);
        answers("A=z", -1002);
        answers("A=M", -1002);
        answers("A=1~", -1003);
        answers("A=@1", -1004);
        answers("A=@,1", -1003);
        answers("A=@1,", -1005);
        answers("A=@1;1", -1004);
        answers("A=@x,1", -1003);
        answers("A=@--1,1", -1004);
        answers("A=@-", -1004);
        answers("A=@1,-", -1006);
        answers("A=@(1),1", -1003);
        answers("A=g", -1003);
        answers("A=gx", -1003);
        answers("A=g1", -1004);
        answers("A=g-1", -1003);
        answers("A=12345", -2006);
        answers("A=00001", -2006);
        answers("A=1+12345", -2008);
        answers("A=@12345,1", -2007);
        answers("A=@1,12345", -2009);
        answers("A=@1,-00000", -2010);
        answers("A=g5x", -3003);
        answers("A=g9", -3003);
        answers("A=@100,1", -3003);
        answers("A=@1,100", -3005);
        answers("A=@-100,1", -3004);
        answers("A=@1,-999", -3006);
        answers("A=@100", -3003);
        answers("A=@9999a", -3003);
        answers("A=@099,-0099", 1);
        answers("A=9999", 1);
        answers("A=g4w", 1);
        answers("A=g0w", 1);
        answers("A=B", -7002);
        answers("A=A", -7002);
        answers("A=L", -7002);
        answers("A=1;B=C", -7006);
        answers("A=B;B=1", -7002);
        answers("A=1*B", -7004);
        answers("A=(-B)", -7004);
        answers("A=1;B=A", 2);
        answers("L=1;A=L;A=A+A", 3);
    }

    private static void workFaultsInOrder() {
        answers("A=Ba", -7002);
        answers("A=1$;B=C", -1003);
        answers("A=9999*9999*2", -8011);
        answers("A=9999*9999*2)", -8011);
        answers("A=9999*9999*B", -7012);
        answers("A=9999*9999*12345", -2016);
        answers("A=9999*9999*(2", -1014);
        answers("A=9999*9999*(2)$", -8011);
        answers("A=1+9999*9999*2+B", -8013);
        answers("A=@100000", -2007);
    }

    private static void workDepths() {
        answers("A=(((((((1", -5008);
        answers("A=((((((1))))))", 1);
        answers("A=-------1", -5008);
        answers("A=------1", 1);
        answers("A=~~~~~~~x", -5008);
        answers("A=#######x", -5008);
        answers("A=!!!!!!!x", -5008);
        answers("A=g1g1g1g1g1g1g1x", -5014);
        answers("A=g1g1g1g1g1g1x", 1);
        answers("A=~#!-g1(~x)", -5009);
        answers("A=~#!-g1(x)", 1);
        answers("A=((((((g5x", -5008);
        answers("A=(((((g5x", -3008);
        answers("A=((((((1))))))+((((((1))))))", 1);
        answers("A=~~~~~~x*~~~~~~x", 1);
        answers("A=~~~~~~@-1,-1", 1);
        answers("A=((((((1-1-1-1-1-1-1-1-1))))))", 1);
        answers("A=((((((1*-1))))))", -5010);
        answers("A=(((((1-1*-1)))))", 1);
        answers("A=~~~(~~~x)", -5008);
        answers("A=~~~(~~x)*(((((-1)))))", 1);
    }

    private static void workSteps() {
        StringBuilder steps = new StringBuilder();
        for (int step = 0; step < 12; step++) steps.append(step > 0 ? ";" : "").append("A=1");
        answers(steps.toString(), 12);
        answers(steps + ";", -4048);
        answers(steps + ";A=1", -4048);
        answers(steps + ";$", -4048);
        answers(steps + ";;", -4048);
        answers(steps + "$", -1047);
        answers(steps + "*B;A=1", -7048);
    }

    private static void workBounds() {
        answers("A=9999*9999", 1);
        answers("A=9999*9999+9999+9999+1", 1);
        answers("A=9999*9999+9999+9999+2", -8021);
        answers("A=-9999*9999-9999-9999-1", 1);
        answers("A=-9999*9999-9999-9999-2", -8022);
        answers("A=9999*9999^2", -8011);
        answers("A=9999*9999.2", -8011);
        answers("A=9999*9999*x-9999*9999*2", -8023);
        // V TIMES X is beyond the BOUND, though all of it would be 0.
        answers("A=9999*9999*f;B=A>2", -8017);
        answers("A=9999*9999*f;B=A>1", 2);
        answers("A=9999*3>4", -8008);
        answers("A=9999*9999*#1;B=A&#2", -8018);
        answers("A=9999*9999*#1;B=A&#1", 2);
    }

    private static void workForms() {
        form("1234", 0, 1234);
        form("x", 1, 1);
        form("y", 2, 1);
        form("p", 4, 1);
        form("m", 8, 1);
        form("w", 15, 1);
        form("f", 4, 1, 8, 1);
        form("@3,-4", 1, 6, 2, -8, 4, 24, 8, 26);
        form("@0,0", 4, -1, 8, 1);
        form("@-99,99", 1, -198, 2, 198, 4, 19601, 8, 19603);
        form("x*x+y*y+p*p", 0, 3);
        form("m*m", 0, -1);
        form("y*x", 3, -1);
        form("m*p*y*x", 15, 1);
        form("(x*y*m)*(y*m)", 1, 1);
        form("2+3*4", 0, 14);
        form("2-3-4", 0, -5);
        form("-2*3", 0, -6);
        form("x^y*y", 1, 1);
        form("x*y^y");
        form("(1+x)^(x+y)", 1, 1, 2, 1, 3, 1);
        form("x.(x*y)", 2, 1);
        form("(x*y).x");
        form("3.x", 1, 3);
        form("x.3");
        form("(x*y).(x*y)", 0, -1);
        form("~(1+x+x*y+x*y*p+w)", 0, 1, 1, 1, 3, -1, 7, -1, 15, 1);
        form("~x*y", 3, 1);
        form("#w", 0, 1);
        form("#1", 15, -1);
        form("#x", 14, -1);
        form("##x", 1, -1);
        form("!(6*y-4*x)", 1, 2, 2, -3);
        form("!0");
        form("!(-6)", 0, 1);
        form("!(2*y+3*p)", 2, 2, 4, 3);
        form("g0(5+x)", 0, 5);
        form("g1(5+x)", 1, 1);
        form("g2(x*y+w+m)", 3, 1);
        form("g3(x*y*p+w)", 7, 1);
        form("g4(x*y*p+w)", 15, 1);
        form("g2x*y");
        form("#x&#y", 12, -1);
        form("w&x", 1, 1);
        form("(x+y)>x", 2, 2);
        form("(1+x*y)>x", 2, -2);
        form("x>y", 2, -1);
        form("x*y>y", 2, -1);
        BladesBench bench = made("A=2;B=A*x;A=B+A");
        due("A anew", bench.part(0, 0), 2);
        due("A anew", bench.part(0, 1), 2);
        due("B", bench.part(1, 1), 2);
    }

    // ---- promise 4
    private static void drops() {
        BladesBench bench = made("A=1;L=2");
        due("drop 0", bench.drop(0), true);
        due("drop 0 again", bench.drop(0), false);
        due("drop 11", bench.drop(11), true);
        due("drop 1", bench.drop(1), false);
        due("drop -1", bench.drop(-1), false);
        due("drop 12", bench.drop(12), false);
        due("none left", bench.letters(0), 0);
        due("only done ones are there", bench.back(), 2);
        due("L is back", bench.part(11, 0), 2);
    }

    // ---- promise 5
    private static void draws() {
        BladesBench bench = made("F=1;G=2");
        due("draws 0", bench.draws(0), -1);
        due("draws 7", bench.draws(7), -1);
        due("X stays", bench.count(3), 1);
        due("draws 6", bench.draws(6), 7);
        int[] places = {-6, 9, 5, -8, 8, -3, 1, 3, 0, -7, 5, 10};
        for (int letter = 0; letter < 6; letter++) {
            due("drawn u", bench.middle(letter, 0), places[2 * letter]);
            due("drawn v", bench.middle(letter, 1), places[2 * letter + 1]);
            due("a PLACE itself", bench.part(letter, 8) - bench.part(letter, 4), 2);
        }
        due("X", bench.count(3), 16421);
        due("others stay", bench.part(6, 0), 2);
        due("draws 1", bench.draws(1), 7);
        due("goes on", bench.middle(0, 0), -1);
        due("two BACK", bench.back(), 2);
        due("as ahead", bench.middle(0, 0), -6);
    }

    // ---- promise 6
    private static void parts() {
        BladesBench bench = made("C=5+7*w-x");
        due("part 0", bench.part(2, 0), 5);
        due("part 15", bench.part(2, 15), 7);
        due("part 1", bench.part(2, 1), -1);
        due("part 2", bench.part(2, 2), 0);
        due("part 16", bench.part(2, 16), NO_PART);
        due("part -1", bench.part(2, -1), NO_PART);
        due("letter -1", bench.part(-1, 0), NO_PART);
        due("letter 12", bench.part(12, 0), NO_PART);
        due("letter without", bench.part(3, 0), NO_PART);
    }

    // ---- promise 7
    private static void letters() {
        BladesBench bench = made("A=@0,0;B=x;C=@0,0^@4,0^@0,4;D=x*y;E=1+x*y;F=5;G=f;H=0;I=#x;J=@1,1-f;K=@1,1+f");
        due("FORMS", bench.letters(0), 0x7ff);
        due("POINTS", bench.letters(1), 1);
        due("OBJECTS", bench.letters(2), 1 + 2 + 4 + 64 + 256 + 512 + 1024);
        due("MIRRORS", bench.letters(3), 2 + 4 + 256 + 512);
        due("MOTIONS", bench.letters(4), 2 + 16 + 32 + 512 + 1024);
        due("letters -1", bench.letters(-1), -1);
        due("letters 5", bench.letters(5), -1);
        due("letters 4 of none", new BladesBench().letters(4), 0);
    }

    // ---- promise 8
    private static void kind(String expression, int want) {
        due("kind of " + expression, made("B=" + expression).formIs(1, 0), want);
    }

    private static void kinds() {
        kind("0", 0);
        kind("-3", 1);
        kind("@1,2", 2);
        kind("-7*@1,2", 2);
        kind("@0,0-f", 3);
        kind("p", 3);
        kind("@0,0+f", 4);
        kind("m", 4);
        kind("f", 5);
        kind("-2*f", 5);
        kind("x", 6);
        kind("x+y-3*f", 6);
        kind("#@1,2", 12);
        kind("@0,0^@4,0^@0,4", 13);
        kind("#(@0,0+f)", 14);
        kind("#f", 15);
        kind("@0,0^@1,1^f", 16);
        kind("x*y+p*m", 9);
        kind("@2,3^f", 8);
        kind("x*f", 8);
        kind("@0,0^@4,0", 20);
        kind("x*m", 20);
        kind("@0,0^y", 21);
        kind("x*y", 22);
        kind("x*p", 22);
        kind("-w", 30);
        kind("1+x*y", 40);
        kind("x*y+w", 40);
        kind("1+w", 40);
        kind("x+x*y*p", 41);
        kind("1+x", 42);
        kind("x+x*y", 42);
        kind("x*y+x*y*p", 42);
        kind("1+x*y*p", 42);
        due("grades", made("A=1+x+x*y+x*y*p+w").formIs(0, 1), 31);
        due("grades of 0", made("A=0").formIs(0, 1), 0);
        due("grades of x + w", made("A=x+w").formIs(0, 1), 18);
        due("parts", made("A=@1,0").formIs(0, 4), 2);
        due("parts of 0", made("A=0").formIs(0, 4), 0);
        BladesBench bench = made("A=x");
        due("formIs -1", bench.formIs(0, -1), -1);
        due("formIs 5", bench.formIs(0, 5), -1);
        due("letter without", bench.formIs(1, 0), -1);
        due("letter -1", bench.formIs(-1, 0), -1);
        due("letter 12", bench.formIs(12, 0), -1);
    }

    private static void motion(String expression, int motion, int order) {
        BladesBench bench = made("A=" + expression);
        due("motion " + expression, bench.formIs(0, 2), motion);
        due("order of " + expression, bench.formIs(0, 3), order);
    }

    private static void motionsAndOrders() {
        motion("7", 1, 1);
        motion("-7", 1, 1);
        motion("x", 1, 2);
        motion("p", 1, 2);
        motion("m", 1, 2);
        motion("3*x+3*y", 1, 2);
        motion("1-x*y", 1, 4);
        motion("1+x*p", 1, 4);
        motion("1+x*f", 1, -2);
        motion("3+4*x*y", 1, -2);
        motion("x+x*y*p", 1, 4);
        motion("0", 0, -3);
        motion("@0,0", 0, -3);
        motion("f", 0, -3);
        motion("x*y", 0, -3);
        motion("#x", 0, -3);
        motion("w", 0, -3);
        motion("x*y+w", 0, -3);
        motion("1+w", 0, -3);
        motion("1+x", 0, -3);
        motion("1+x*m", 0, -3);
        motion("2+x*m", 1, -2);
    }

    // ---- promise 9
    private static void middle(String expression, long... want) {
        BladesBench bench = made("A=" + expression);
        for (int what = 0; what < 5; what++) due("middle of " + expression + " " + what, bench.middle(0, what), want[what]);
    }

    private static void middles() {
        middle("@3,-4", 3, -4, 1, 0, 1);
        middle("-2*@3,-4", 3, -4, 1, 0, 1);
        middle("@1,0+@0,0", 1, 0, 2, -1, 4);
        middle("@2,2-8*f", 2, 2, 1, 8, 1);
        middle("3*@2,1-f", 2, 1, 1, 1, 3);
        middle("#(@2,1+f)", 2, 1, 1, -1, 1);
        middle("#@5,6", 5, 6, 1, 0, 1);
        middle("@0,0^@4,0^@0,4", 2, 2, 1, 8, 1);
        for (String other : new String[] {"x", "f", "0", "1", "#x", "x*y", "@0,0^@1,0", "1+x"}) {
            due("middle of " + other, made("A=" + other).middle(0, 0), OTHER_KIND);
        }
        BladesBench bench = made("A=@1,1;B=x");
        due("what -1", bench.middle(0, -1), NO_SUCH);
        due("what 5", bench.middle(0, 5), NO_SUCH);
        due("what 5 of another KIND", bench.middle(1, 5), NO_SUCH);
        due("letter without", bench.middle(2, 0), NO_SUCH);
        due("letter 12", bench.middle(12, 0), NO_SUCH);
        due("letter -1", bench.middle(-1, 0), NO_SUCH);
    }

    // ---- promise 10
    private static void line(String expression, int... want) {
        BladesBench bench = made("A=" + expression);
        for (int what = 0; what < 3; what++) due("line of " + expression + " " + what, bench.line(0, what), want[what]);
    }

    private static void lines() {
        line("3*x+6*y+9*f", 1, 2, 3);
        line("-2*x", 1, 0, 0);
        line("-2*y+4*f", 0, 1, -2);
        line("-3*x+5*y-f", 3, -5, 1);
        line("@0,1^@2,1^f", 0, 1, 1);
        line("@0,0^@1,1^f", 1, -1, 0);
        for (String other : new String[] {"f", "@1,1", "p", "#f", "#p", "0", "x*y", "3", "1+x*y*p"}) {
            due("line of " + other, made("A=" + other).line(0, 0), NO_PART);
        }
        BladesBench bench = made("A=x");
        due("what -1", bench.line(0, -1), NO_PART);
        due("what 3", bench.line(0, 3), NO_PART);
        due("letter without", bench.line(1, 0), NO_PART);
        due("letter -1", bench.line(-1, 0), NO_PART);
        due("letter 12", bench.line(12, 0), NO_PART);
    }

    // ---- promise 11
    private static void ons() {
        BladesBench bench = made("A=@3,4;B=x-3*f;C=@0,0-25*f;D=#C;E=@3,4^@-5,0;F=@2,2^f;G=f;H=#B");
        int[] on34 = {1, 0, 1, 1, 1, 0, 0, 0};
        for (int letter = 0; letter < 8; letter++) due("(3, 4) on " + letter, bench.on(letter, 3, 4), on34[letter]);
        due("x = -3", bench.on(1, -3, 99), 1);
        due("x = -3, dual", bench.on(7, -3, -99), 1);
        due("the other end", bench.on(4, -5, 0), 1);
        due("on the circle, not in the pair", bench.on(4, 4, 3), 0);
        due("circle", bench.on(2, 4, -3), 1);
        due("its dual", bench.on(3, 0, 5), 1);
        due("inside", bench.on(3, 0, 4), 0);
        due("flat point", bench.on(5, 2, 2), 1);
        due("flat point", bench.on(5, 2, 3), 0);
        due("u 100", bench.on(0, 100, 0), -1);
        due("u -100", bench.on(0, -100, 0), -1);
        due("v 100", bench.on(0, 0, 100), -1);
        due("v -100", bench.on(0, 0, -100), -1);
        due("letter without", bench.on(8, 0, 0), -1);
        due("letter -1", bench.on(-1, 0, 0), -1);
        due("letter 12", bench.on(12, 0, 0), -1);
        for (String other : new String[] {"0", "1", "w", "x*y+p*m", "1+x*y", "x+x*y*p", "1+x"}) {
            due("on " + other, made("A=" + other).on(0, 0, 0), -3);
            due("far off " + other, made("A=" + other).on(0, 0, 100), -1);
        }
        due("a touching pair", made("A=@0,0^y").on(0, 0, 0), 1);
        due("an unseen pair", made("A=x*y").on(0, 0, 0), 0);
        due("an unseen circle", made("A=@0,0+f").on(0, 0, 0), 0);
    }

    // ---- promise 12
    private static void products() {
        BladesBench bench = made("A=9999*9999;B=x+2*y;C=3*x-y;D=#x;E=#y");
        due("TIMES without the BOUND", bench.product(0, 0, 0, 0), 9996000599960001L);
        due("TIMES", bench.product(0, 1, 2, 0), 1);
        due("TIMES", bench.product(0, 1, 2, 3), -7);
        due("TIMES turned", bench.product(0, 2, 1, 3), 7);
        due("OUTER", bench.product(1, 1, 2, 0), 0);
        due("OUTER", bench.product(1, 1, 2, 3), -7);
        due("INNER", bench.product(2, 1, 2, 0), 1);
        due("INNER", bench.product(2, 1, 2, 3), 0);
        due("number INNER", bench.product(2, 0, 1, 2), 2 * 99980001L);
        due("INNER number", bench.product(2, 1, 0, 2), 0);
        due("MEET", bench.product(3, 3, 4, 12), -1);
        due("MEET turned", bench.product(3, 4, 3, 12), 1);
        due("MEET", bench.product(3, 3, 4, 0), 0);
        due("kind -1", bench.product(-1, 0, 0, 0), NO_SUCH);
        due("kind 4", bench.product(4, 0, 0, 0), NO_SUCH);
        due("part -1", bench.product(0, 0, 0, -1), NO_SUCH);
        due("part 16", bench.product(0, 0, 0, 16), NO_SUCH);
        due("part 16 of MEET", bench.product(3, 0, 0, 16), NO_SUCH);
        due("one without", bench.product(0, 5, 0, 0), NO_SUCH);
        due("other without", bench.product(0, 0, 5, 0), NO_SUCH);
        due("other 12", bench.product(0, 0, 12, 0), NO_SUCH);
        due("one -1", bench.product(0, -1, 0, 0), NO_SUCH);
    }

    // ---- promise 13
    private static void cosine(String text, long upper, long lower) {
        BladesBench bench = made(text);
        due("cosine of " + text, bench.cosine(0, 1, 0), upper);
        due("cosine of " + text, bench.cosine(0, 1, 1), lower);
    }

    private static void cosines() {
        cosine("A=x;B=x+y", 1, 2);
        cosine("A=x;B=-x-y", -1, 2);
        cosine("A=x;B=y", 0, 1);
        cosine("A=3*x+4*y;B=5*x", 9, 25);
        cosine("A=#x;B=x+y", -1, 2);
        cosine("A=@0,0-f;B=@0,0-4*f", 25, 16);
        cosine("A=9999*x+x;B=y+x", 1, 2);
        cosine("A=9999*x+2*x;B=x+y", NO_SUCH, NO_SUCH);
        cosine("A=x;B=9999*x+9*y+2*x", NO_SUCH, NO_SUCH);
        cosine("A=@0,0;B=x", NO_SUCH, NO_SUCH);
        cosine("A=x;B=@0,0+f", NO_SUCH, NO_SUCH);
        cosine("A=x;B=@0,0", NO_SUCH, NO_SUCH);
        cosine("A=f;B=x", NO_SUCH, NO_SUCH);
        cosine("A=x;B=1", NO_SUCH, NO_SUCH);
        cosine("A=x*m;B=x", NO_SUCH, NO_SUCH);
        BladesBench bench = made("A=x;B=y");
        due("what -1", bench.cosine(0, 1, -1), NO_SUCH);
        due("what 2", bench.cosine(0, 1, 2), NO_SUCH);
        due("letter without", bench.cosine(0, 2, 0), NO_SUCH);
        due("letter -1", bench.cosine(-1, 0, 0), NO_SUCH);
        due("letter 12", bench.cosine(0, 12, 0), NO_SUCH);
    }

    // ---- promise 14
    private static void distance(String text, long upper, long lower) {
        BladesBench bench = made(text);
        due("distance of " + text, bench.distance(0, 1, 0), upper);
        due("distance of " + text, bench.distance(0, 1, 1), lower);
    }

    private static void distances() {
        distance("A=@0,0;B=@3,4", 25, 1);
        distance("A=@-2,1;B=-3*@-2,1", 0, 1);
        distance("A=@0,0;B=4*x-3*p+5*m", 1, 4);
        distance("A=@1,1;B=4*x-3*p+5*m", 5, 4);
        distance("A=2000*x+1000*1000*f-p+m;B=@0,0", 1000000, 1);
        distance("A=@0,0;B=2000*x+1000*1000*f-p+m", 1000000, 1);
        distance("A=2002*x+1001*1001*f-p+m;B=@0,0", NO_SUCH, NO_SUCH);
        distance("A=@0,0;B=-2002*y+1001*1001*f-p+m", NO_SUCH, NO_SUCH);
        distance("A=@0,0;B=x", NO_SUCH, NO_SUCH);
        distance("A=@0,0;B=#@1,0", NO_SUCH, NO_SUCH);
        distance("A=@0,0-f;B=@1,0", NO_SUCH, NO_SUCH);
        BladesBench bench = made("A=@0,0;B=@1,0");
        due("what -1", bench.distance(0, 1, -1), NO_SUCH);
        due("what 2", bench.distance(0, 1, 2), NO_SUCH);
        due("letter without", bench.distance(2, 0, 0), NO_SUCH);
        due("letter -1", bench.distance(0, -1, 0), NO_SUCH);
        due("letter 12", bench.distance(12, 0, 0), NO_SUCH);
    }

    // ---- promise 15
    private static void pair(String expression, long... want) {
        BladesBench bench = made("A=" + expression);
        for (int what = 0; what < 11; what++) {
            due("pair of " + expression + " " + what, bench.pair(0, what), want[Math.min(what, want.length - 1)]);
        }
    }

    private static void pairs() {
        pair("@4,0^@0,0", 2, 0, 1, 4, 1, 0, 0, 1, 4, 0, 1);
        pair("@0,0^@4,0", 2, 0, 1, 4, 1, 4, 0, 1, 0, 0, 1);
        pair("-3*@0,1^@1,0", 1, 1, 2, 1, 2, 0, 1, 1, 1, 0, 1);
        pair("#(y^(@0,0-2*f))", 0, 0, 1, 2, 1, NOT_WHOLE);
        pair("#(y^(@0,0+f))", 0, 0, 1, -1, 1, OTHER_KIND);
        pair("@0,0^y", 0, 0, 1, 0, 1, OTHER_KIND);
        pair("x*y", OTHER_KIND);
        pair("9999*@0,0^@1,0", OTHER_KIND);
        pair("10*@0,0^@10,0", 5, 0, 1, 25, 1, 10, 0, 1, 0, 0, 1);
        // HALF and the second END are still within the BOUND, MIDDLE and the first END are not.
        pair("50*@0,0^@10,0", OTHER_KIND, OTHER_KIND, OTHER_KIND, 25, 1, OTHER_KIND, OTHER_KIND, OTHER_KIND, 0, 0, 1);
        // B TIMES THE FAR ONE, THE FAR ONE INNER B beyond the BOUND.
        pair("9999*9999*x*(p-m)", OTHER_KIND);
        pair("x*((9000*8000+2)*m-(9000*8000-2)*p)", OTHER_KIND);
        due("an END first of all", made("A=@0,0^@4,0").pair(0, 5), 4);
        for (String other : new String[] {"x", "@1,1", "0", "x*f", "x*y+p*m", "1+x*y", "w"}) pair(other, OTHER_KIND);
        BladesBench bench = made("A=@0,0^@4,0");
        due("what -1", bench.pair(0, -1), NO_SUCH);
        due("what 11", bench.pair(0, 11), NO_SUCH);
        due("letter without", bench.pair(1, 0), NO_SUCH);
        due("letter -1", bench.pair(-1, 0), NO_SUCH);
        due("letter 12", bench.pair(12, 0), NO_SUCH);
    }

    // ---- promise 16
    private static void power(String expression, int u, int v, long upper, long lower) {
        BladesBench bench = made("A=" + expression);
        due("power of " + expression, bench.power(0, u, v, 0), upper);
        due("power of " + expression, bench.power(0, u, v, 1), lower);
    }

    private static void powers() {
        power("@0,0", 3, 4, 25, 1);
        power("@2,2-8*f", 0, 0, 0, 1);
        power("@0,0^@4,0^@0,4", 2, 2, -8, 1);
        power("@1,0+@0,0", 0, 0, 1, 2);
        power("@1,0+@0,0", -99, 99, 39403, 2);
        power("3*@2,1-f", 2, 1, -1, 3);
        power("@0,0-9999*f-f", 0, 0, -10000, 1);
        power("@0,0-9999*f-2*f", 0, 0, OTHER_KIND, OTHER_KIND);
        power("@0,0+9999*f+2*f", 0, 0, OTHER_KIND, OTHER_KIND);
        power("5000*9999*f+m+2*5000*x", 0, 0, 99990001, 1);
        power("(9999*9999+9999)*f-p+m+2*5000*2*x", 0, 0, 99990000, 1);
        power("5000*(9999+2)*f+m+(9999+2)*x", 0, 0, OTHER_KIND, OTHER_KIND);
        power("x", 0, 0, OTHER_KIND, OTHER_KIND);
        power("f", 0, 0, OTHER_KIND, OTHER_KIND);
        power("1", 0, 0, OTHER_KIND, OTHER_KIND);
        power("x*y", 0, 0, OTHER_KIND, OTHER_KIND);
        power("9999*x+p", 0, 0, OTHER_KIND, OTHER_KIND);
        BladesBench bench = made("A=@0,0;B=x");
        due("u 100", bench.power(0, 100, 0, 0), NO_SUCH);
        due("u -100", bench.power(1, -100, 0, 0), NO_SUCH);
        due("v 100", bench.power(0, 0, 100, 0), NO_SUCH);
        due("v -100", bench.power(0, 0, -100, 0), NO_SUCH);
        due("what -1", bench.power(0, 0, 0, -1), NO_SUCH);
        due("what 2", bench.power(0, 0, 0, 2), NO_SUCH);
        due("letter without", bench.power(2, 0, 0, 0), NO_SUCH);
        due("letter -1", bench.power(-1, 0, 0, 0), NO_SUCH);
        due("letter 12", bench.power(12, 0, 0, 0), NO_SUCH);
    }

    // ---- promise 17
    private static void stand(String text, int want) {
        due("stand of " + text, made(text).stand(0, 1), want);
    }

    private static void stands() {
        stand("A=x;B=y", 0);
        stand("A=x;B=x+f", 1);
        stand("A=x;B=#x", 1);
        stand("A=@0,0-f;B=@5,0-f", 2);
        stand("A=@0,0-f;B=@2,0-f", 1);
        stand("A=@0,0-f;B=@1,0-f", 0);
        stand("A=@0,0-9*f;B=@1,0-f", 2);
        stand("A=@0,0^@2,0^@1,1;B=y", 0);
        stand("A=x;B=@0,0", -3);
        stand("A=@0,0+f;B=x", -3);
        stand("A=f;B=x", -3);
        stand("A=9999*x+2*x;B=@0,0", -3);
        stand("A=9999*x+2*x;B=y", -4);
        stand("A=x;B=9999*x+2*x", -4);
        stand("A=9999*x+x;B=y", 0);
        BladesBench bench = made("A=x;B=1");
        due("letter without", bench.stand(1, 2), -1);
        due("letter without", bench.stand(2, 1), -1);
        due("letter -1", bench.stand(0, -1), -1);
        due("letter 12", bench.stand(12, 0), -1);
    }

    // ---- promise 18
    private static void bundle(String text, int want) {
        due("bundle of " + text, made(text).bundle(0, 1, 2), want);
    }

    private static void bundles() {
        bundle("A=x;B=y;C=x+y", 1);
        bundle("A=x;B=y;C=x+f", 0);
        bundle("A=x;B=x+f;C=x+2*f", 1);
        bundle("A=x;B=2*x;C=y", 1);
        bundle("A=#x;B=y;C=#(x-y)", 1);
        bundle("A=@0,1-2*f;B=@0,-1-2*f;C=@0,0-f", 1);
        bundle("A=@0,1-2*f;B=@0,-1-2*f;C=@0,0-2*f", 0);
        bundle("A=9999*9999*x+y;B=9999*y+x;C=x", 1);
        bundle("A=9999*9999*x+y;B=9999*y+f;C=x", -4);
        bundle("A=x;B=9999*9999*x+y;C=9999*y+f", 0);
        bundle("A=9999*9999*x+y;B=9999*y+f;C=@0,0", -3);
        bundle("A=@0,0;B=x;C=y", -3);
        bundle("A=x;B=1;C=y", -3);
        BladesBench bench = made("A=x;B=y;C=1");
        due("letter without", bench.bundle(0, 2, 3), -1);
        due("letter without", bench.bundle(3, 0, 1), -1);
        due("letter -1", bench.bundle(0, -1, 1), -1);
        due("letter 12", bench.bundle(0, 1, 12), -1);
    }

    // ---- promise 19
    private static void groups() {
        BladesBench bench = made("A=1-x*y;B=x;C=y;D=1+x*f;E=x+y;F=3+4*x*y;G=@0,0;H=5;I=-2*x");
        due("turns", bench.group(1), 4);
        due("a line", bench.group(2), 2);
        due("two lines", bench.group(6), 4);
        due("lines at half a right angle", bench.group(2 + 16), 8);
        due("like ones", bench.group(2 + 256), 2);
        due("a number", bench.group(128), 1);
        due("shifts", bench.group(8), 200);
        due("beyond the BOUND", bench.group(32), 11);
        due("six", bench.group(1 + 2 + 4 + 16 + 128 + 256), 8);
        due("seven", bench.group(1 + 2 + 4 + 8 + 16 + 128 + 256), -1);
        due("no MOTION", bench.group(2 + 64), -3);
        due("none", bench.group(0), -1);
        due("4096", bench.group(4096), -1);
        due("4096 and more", bench.group(4096 + 1), -1);
        due("letter without", bench.group(512), -1);
        due("letter without", bench.group(64 + 512), -1);
        due("below 0", bench.group(-1), -1);
        due("below 0", bench.group(Integer.MIN_VALUE + 2), -1);
    }

    // ---- promise 20
    private static void ranks() {
        BladesBench bench = made("A=x;B=y;C=x+y;D=1000*1000+3;E=0;F=1;G=x+D*y;H=2*x+3*w;I=w;J=-y;K=p;L=m");
        due("two of three", bench.rank(7), 2);
        due("0 modulo the prime", bench.rank(8), 0);
        due("0", bench.rank(16), 0);
        due("like modulo the prime", bench.rank(1 + 64), 1);
        due("unlike", bench.rank(32 + 1), 2);
        due("H of A and I", bench.rank(1 + 128 + 256), 2);
        due("all", bench.rank(4095), 6);
        due("one", bench.rank(2048), 1);
        due("none", bench.rank(0), -1);
        due("4096", bench.rank(4096), -1);
        due("below 0", bench.rank(-2), -1);
        bench.drop(11);
        due("letter without", bench.rank(2048 + 1), -1);
        due("without that letter", bench.rank(2047), 5);
    }

    // ---- promise 21
    private static void rows() {
        BladesBench bench = made("A=y-3*f;B=@0,0-25*f;C=@1,2;D=@1,2^@-15,2;E=@1,2^f;F=1;G=x-15*f;H=f");
        due("all of a row", bench.row(0, -3), 0x7fffffff);
        due("none of a row", bench.row(0, 3), 0);
        due("circle", bench.row(1, 4), 1 << 12 | 1 << 18);
        due("circle's top", bench.row(1, -5), 1 << 15);
        due("point", bench.row(2, 2), 1 << 16);
        due("pair", bench.row(3, 2), 1 << 16 | 1);
        due("flat point", bench.row(4, 2), 1 << 16);
        due("flat point", bench.row(4, -99), 0);
        due("the last bit", bench.row(6, 99), 1);
        due("KIND 5", bench.row(7, 0), 0);
        due("another KIND", bench.row(5, 0), -3);
        due("v 100", bench.row(5, 100), -1);
        due("v -100", bench.row(0, -100), -1);
        due("letter without", bench.row(8, 0), -1);
        due("letter -1", bench.row(-1, 0), -1);
        due("letter 12", bench.row(12, 0), -1);
    }

    // ---- promise 22
    private static void wholes() {
        BladesBench bench = made("A=x;B=@0,0-25*f;C=#B;D=@99,-99;E=f;F=@0,0^@1,0;G=1;H=x+y-99*f;I=x-99*f;J=x-100*f");
        due("line", bench.whole(0), 199);
        due("circle", bench.whole(1), 12);
        due("its dual", bench.whole(2), 12);
        due("point", bench.whole(3), 1);
        due("KIND 5", bench.whole(4), 0);
        due("pair", bench.whole(5), -3);
        due("number", bench.whole(6), -3);
        due("slant line", bench.whole(7), 100);
        due("the last line", bench.whole(8), 199);
        due("beyond the last", bench.whole(9), 0);
        due("letter without", bench.whole(10), -1);
        due("letter -1", bench.whole(-1), -1);
        due("letter 12", bench.whole(12), -1);
    }

    // ---- promise 23
    private static void books() {
        BladesBench bench = new BladesBench();
        due("book 1 of nothing", bench.book(1), -1);
        lay(bench, "A=1;B=2");
        due("book -1", bench.book(-1), -1);
        due("book 121", bench.book(121), -1);
        due("book 21", bench.book(21), -1);
        due("the tape stays", bench.count(2), 20);
        due("book 7", bench.book(7), 7);
        due("the tape is empty", bench.count(2), 0);
        due("nothing is done yet", bench.letters(0), 0);
        due("run", bench.run(), 2);
        bench.feed(0, 0, 0, 0, 0);
        due("book 0", bench.book(0), 0);
        due("the tape is empty", bench.count(2), 0);
        due("no bytes", bench.run(), -2);
        StringBuilder text = new StringBuilder("A=1");
        while (text.length() < 119) text.append("+1");
        text.append(" ");
        due("book 120", book(bench, text.toString()), 120);
        due("run 120", bench.run(), -1119);
        due("as it is", book(bench, "$"), 1);
        due("as it is", bench.run(), -1000);
    }

    // ---- promise 24
    private static void runs() {
        BladesBench bench = made("A=1");
        due("no bytes", bench.run(), -2);
        book(bench, "A=A+A;B=A");
        due("run", bench.run(), 2);
        due("run again", bench.run(), 2);
        due("A", bench.part(0, 0), 4);
        due("BACK", bench.back(), 2);
        due("A ahead", bench.part(0, 0), 2);
        book(bench, "A=5;B=9999*9999*A");
        due("a FAULT", bench.run(), -8015);
        due("does nothing", bench.part(0, 0), 2);
        due("does nothing", bench.count(1), 2);
        bench.keep();
        bench.undo();
        due("THE BOOK stays", bench.run(), -8015);
    }

    // ---- promise 25
    private static void trials() {
        BladesBench bench = made("C=7;F=x");
        due("no bytes", bench.trials(1, 1, 0, 0), -2);
        due("no bytes, no such ones", bench.trials(-1, 1, 0, 0), -1);
        // (-6, 9) is the first one drawn, and it does not come again soon.
        book(bench, "C=A.@-6,9");
        due("as drawn, one behind the other", bench.trials(1, 1, 2, 0), 1);
        due("as drawn, one behind the other", bench.trials(1, 20, 2, 0), 1);
        due("the others", bench.trials(1, 20, 2, 1), 19);
        due("faults", bench.trials(1, 20, 2, -1), 0);
        due("A stands for none", bench.trials(0, 5, 2, -1), 5);
        due("a FAULT is of no KIND", bench.trials(0, 5, 2, 1), 0);
        due("drawn too", bench.trials(2, 20, 1, 2), 20);
        due("as it was", bench.trials(2, 4, 5, 6), 4);
        due("stands for none", bench.trials(2, 20, 11, 0), 0);
        due("no such KIND", bench.trials(2, 20, 0, 7), 0);
        due("X", bench.count(3), 1);
        due("BACK", bench.count(1), 1);
        due("letters", bench.letters(0), 4 + 32);
        due("C", bench.part(2, 0), 7);
        due("drawn -1", bench.trials(-1, 1, 0, 0), -1);
        due("drawn 7", bench.trials(7, 1, 0, 0), -1);
        due("n 0", bench.trials(1, 0, 0, 0), -1);
        due("n 21", bench.trials(1, 21, 0, 0), -1);
        due("letter -1", bench.trials(1, 1, -1, 0), -1);
        due("letter 12", bench.trials(1, 1, 12, 0), -1);
        due("kind -2", bench.trials(1, 1, 0, -2), -1);
        due("kind 43", bench.trials(1, 1, 0, 43), -1);
        due("kind 42", bench.trials(6, 1, 0, 42), 0);
        book(bench, "B=9999*9999*(C-6);A=9999*9999*(A.x+6)");
        due("some FAULTS", bench.trials(1, 20, 0, -1) + bench.trials(1, 20, 0, 1) + bench.trials(1, 20, 0, 0), 20);
    }

    // ---- promise 26
    private static void likes() {
        BladesBench bench = made("A=2*x-4*y;B=-3*x+6*y;C=x+2*y;D=0;E=0;F=5;G=-1");
        due("like", bench.like(0, 1), 1);
        due("itself", bench.like(0, 0), 1);
        due("unlike", bench.like(0, 2), 0);
        due("numbers", bench.like(5, 6), 1);
        due("one is 0", bench.like(0, 3), -2);
        due("both are 0", bench.like(3, 4), -2);
        due("letter without", bench.like(3, 7), -1);
        due("letter -1", bench.like(-1, 0), -1);
        due("letter 12", bench.like(0, 12), -1);
    }

    // ---- promise 27
    private static void lies() {
        BladesBench bench = made("A=@3,4;B=@0,0-25*f;C=#B;D=x;E=4*x-3*p+5*m;F=2*x-f;G=f;H=@3,4^@0,0;I=3*@3,4");
        due("on the circle", bench.lies(0, 1), 1);
        due("on its dual", bench.lies(0, 2), 1);
        due("not on the line", bench.lies(0, 3), 0);
        due("(1/2, 0)", bench.lies(4, 5), 0);
        due("on itself", bench.lies(0, 8), 1);
        due("not on another one", bench.lies(0, 4), 0);
        due("KIND 5", bench.lies(0, 6), 0);
        due("a pair is no OBJECT", bench.lies(0, 7), -3);
        due("no POINT", bench.lies(1, 0), -3);
        due("letter without", bench.lies(1, 9), -1);
        due("letter -1", bench.lies(-1, 0), -1);
        due("letter 12", bench.lies(0, 12), -1);
        due("(1/2, 0) on 2 X = 1", made("A=4*x-3*p+5*m;B=2*x+f").lies(0, 1), 1);
    }

    // ---- promise 28
    private static void meetings() {
        BladesBench bench = made("A=@0,0;B=@1,0;C=@2,0;D=@0,1;E=@1,1;F=y;G=@0,0^@1,0^@0,1;H=x;I=2*y;J=0;K=0;L=f");
        due("POINTS on OBJECTS", bench.meetings(0), 3 + 4 + 2 + 3);
        due("threes on lines", bench.meetings(1), 1);
        due("fours on circles", bench.meetings(2), 1);
        due("LIKE ones", bench.meetings(3), 1);
        due("the fullest", bench.meetings(4), 6);
        due("meetings -1", bench.meetings(-1), -1);
        due("meetings 5", bench.meetings(5), -1);
        due("the lowest of equal ones", made("A=x;B=@0,0;C=y;D=@0,1;E=@1,0").meetings(4), 0);
        due("no OBJECT but POINTS", made("A=@0,0;B=@0,1").meetings(4), -2);
        due("an OBJECT without POINTS", made("A=1;C=x").meetings(4), 2);
        due("a dual POINT bears", made("A=#@0,0;B=@0,0").meetings(0), 1);
        due("four on a line", made("A=@0,0;B=@1,1;C=@2,2;D=@3,3").meetings(1), 4);
        due("four on a line", made("A=@0,0;B=@1,1;C=@2,2;D=@3,3").meetings(2), 1);
        due("the same POINT thrice", made("A=@1,2;B=@1,2;C=-@1,2").meetings(1), 1);
        due("LIKE POINTS", made("A=@1,2;B=@1,2;C=-@1,2").meetings(3), 3);
        due("beyond the BOUND", made("A=999*@9,9;B=999*@8,8;C=@7,7").meetings(1), 0);
        due("within the BOUND", made("A=9*@9,9;B=9*@8,8;C=@7,7").meetings(1), 1);
        due("none", new BladesBench().meetings(1), 0);
    }

    // ---- promise 29
    private static void turneds() {
        BladesBench bench = made("A=@0,4;B=y;C=#y;D=@0,0-16*f;E=x*y*p;F=0;G=9999*9999*x;H=9*y+8*x;I=@0,1;J=5");
        due("turned", bench.turned(0, 1, 2), 8);
        due("turned", bench.turned(0, 1, 4), -15);
        due("turned", bench.turned(0, 1, 8), -17);
        due("by a dual", bench.turned(0, 2, 4), -15);
        due("in the circle it stays", bench.turned(0, 3, 2), 8);
        due("in the circle", bench.turned(8, 3, 2), 32);
        due("in the circle", bench.turned(8, 3, 4), 255);
        due("GRADE 3", bench.turned(4, 1, 7), 1);
        due("0", bench.turned(5, 1, 0), 0);
        due("a number", bench.turned(9, 7, 0), 1);
        due("beyond the BOUND", bench.turned(6, 7, 1), NO_PART);
        due("no MIRROR", bench.turned(1, 0, 0), NO_PART);
        due("no MIRROR", bench.turned(1, 4, 0), NO_PART);
        due("part -1", bench.turned(0, 1, -1), NO_PART);
        due("part 16", bench.turned(0, 1, 16), NO_PART);
        due("letter without", bench.turned(10, 1, 0), NO_PART);
        due("mirror without", bench.turned(0, 10, 0), NO_PART);
        due("letter -1", bench.turned(-1, 1, 0), NO_PART);
        due("mirror 12", bench.turned(0, 12, 0), NO_PART);
    }

    // ---- promise 30
    private static void brings(String expression, int u, int v, long... want) {
        BladesBench bench = made("A=" + expression);
        for (int what = 0; what < 3; what++) due(expression + " brings " + what, bench.brings(0, u, v, what), want[what]);
    }

    private static void brings() {
        brings("1-x*y", 3, 5, -5, 3, 1);
        brings("x", 3, 5, -3, 5, 1);
        brings("5", -99, 99, -99, 99, 1);
        brings("(x+2*f)*x", 3, 5, 7, 5, 1);
        brings("@0,0-f", 2, 0, 1, 0, 2);
        brings("@0,0+f", 2, 0, -1, 0, 2);
        brings("@0,0-f", 0, 0, OTHER_KIND, OTHER_KIND, OTHER_KIND);
        brings("#x", 3, 5, OTHER_KIND, OTHER_KIND, OTHER_KIND);
        brings("0", 3, 5, OTHER_KIND, OTHER_KIND, OTHER_KIND);
        brings("@1,1", 3, 5, OTHER_KIND, OTHER_KIND, OTHER_KIND);
        brings("9999", 3, 5, OTHER_KIND, OTHER_KIND, OTHER_KIND);
        brings("999", 1, 5, 1, 5, 1);
        BladesBench bench = made("A=x;B=0");
        due("u 100", bench.brings(1, 100, 0, 0), NO_SUCH);
        due("u -100", bench.brings(0, -100, 0, 0), NO_SUCH);
        due("v 100", bench.brings(0, 0, 100, 0), NO_SUCH);
        due("v -100", bench.brings(0, 0, -100, 0), NO_SUCH);
        due("what -1", bench.brings(0, 0, 0, -1), NO_SUCH);
        due("what 3", bench.brings(0, 0, 0, 3), NO_SUCH);
        due("letter without", bench.brings(2, 0, 0, 0), NO_SUCH);
        due("letter -1", bench.brings(-1, 0, 0, 0), NO_SUCH);
        due("letter 12", bench.brings(12, 0, 0, 0), NO_SUCH);
    }

    // ---- promise 31
    private static void broughts() {
        BladesBench bench = made("A=x;B=x-f;C=y;D=@0,0;E=@2,0;F=2*@-2,0;G=@4,0;H=@6,0;I=@0,1;J=#x;K=x+f;L=y-f");
        int two = 1 + 2;
        due("itself", bench.brought(3, 3, two), 0);
        due("like", bench.brought(0, 9, 4), -2);
        due("one", bench.brought(3, 5, 2), 1);
        due("one", bench.brought(4, 5, two), 1);
        due("two", bench.brought(3, 4, two), 2);
        // The line B is X = -1: (2, 0) goes to (-4, 0) and on to (4, 0).
        due("two", bench.brought(4, 6, two), 2);
        due("three", bench.brought(5, 6, two), 3);
        due("three", bench.brought(6, 5, two), 3);
        due("two of three", bench.brought(4, 7, two + 1024), 2);
        due("not by three", bench.brought(3, 7, two), -2);
        due("by a dual", bench.brought(4, 5, 512), 1);
        due("six", bench.brought(4, 5, 1 + 2 + 4 + 512 + 1024 + 2048), 1);
        due("no MIRROR", bench.brought(3, 4, 1 + 8), -3);
        due("none", bench.brought(3, 4, 0), -1);
        due("4096", bench.brought(3, 4, 4096 + 1), -1);
        due("below 0", bench.brought(3, 4, -1), -1);
        due("seven", bench.brought(3, 4, 127), -1);
        due("letter 12", bench.brought(12, 4, 1), -1);
        due("letter -1", bench.brought(3, -1, 1), -1);
        bench.drop(8);
        due("letter without", bench.brought(8, 3, 1), -1);
        due("letter without", bench.brought(3, 8, 1), -1);
        due("mirror without", bench.brought(3, 4, 8 + 256), -1);
        BladesBench shifts = made("A=x;B=x-f;C=@0,0;D=@-4,0;E=@6,0;F=@-2,0;G=@2,0;H=0");
        due("a TURN", shifts.brought(6, 3, 3), 1);
        due("two TURNS", shifts.brought(5, 3, 3), 2);
        due("not by three", shifts.brought(2, 4, 3), -2);
        due("0 to 0", shifts.brought(7, 7, 1), 0);
        due("0 to another one", shifts.brought(7, 2, 1), -2);
    }

    // ---- promise 32
    private static void comes() {
        BladesBench bench = made("A=x;B=x-f;C=y;D=@0,0;E=@5,3;F=#y;G=x+y;H=9999*9999*x;I=9*y+8*x;J=0;K=1");
        due("itself", bench.come(4, 1, 0), 1);
        due("and one", bench.come(4, 1, 1), 2);
        due("and back", bench.come(4, 1, 3), 2);
        due("two lines", bench.come(4, 1 + 4, 1), 3);
        due("two lines", bench.come(4, 1 + 4, 3), 4);
        due("shifts", bench.come(4, 1 + 2, 3), 7);
        due("D on a line", bench.come(3, 1 + 2, 3), 4);
        due("half right angles", bench.come(4, 1 + 4 + 64, 3), 8);
        due("likes", bench.come(4, 4 + 32, 3), 2);
        due("0", bench.come(9, 1, 3), 1);
        due("a number", bench.come(10, 1 + 2, 3), 1);
        due("NORMAL first", bench.come(7, 256, 1), 2);
        due("n -1", bench.come(4, 1, -1), -1);
        due("n 4", bench.come(4, 1, 4), -1);
        due("no MIRROR", bench.come(4, 1 + 8, 1), -3);
        due("none", bench.come(4, 0, 1), -1);
        due("seven", bench.come(4, 127, 1), -1);
        due("4096", bench.come(4, 4097, 1), -1);
        due("letter without", bench.come(11, 1, 1), -1);
        due("mirror without", bench.come(4, 1 + 2048, 1), -1);
        due("letter -1", bench.come(-1, 1, 1), -1);
        due("letter 12", bench.come(12, 1, 1), -1);
        BladesBench many = made("A=x;B=x-f;C=y;D=y-2*f;E=@0,0-f;F=@1,2-3*f;G=@5,3");
        due("more with each TURN", many.come(6, 63, 1), 7);
    }

    // ---- promise 33
    private static void backs() {
        BladesBench bench = new BladesBench();
        due("none", bench.back(), -1);
        for (int n = 1; n <= 10; n++) {
            work(bench, "A=" + n);
            due("there are", bench.count(1), Math.min(n, 8));
        }
        for (int n = 9; n >= 2; n--) {
            due("back", bench.back(), n - 2);
            due("A", bench.part(0, 0), n);
        }
        due("elder ones are forgotten", bench.back(), -1);
        due("A stays", bench.part(0, 0), 2);
        work(bench, "B=1");
        bench.drop(0);
        bench.draws(2);
        book(bench, "C=1");
        bench.run();
        due("four", bench.count(1), 4);
        due("run", bench.back(), 3);
        due("run", bench.letters(0), 3);
        due("draws", bench.back(), 2);
        due("draws", bench.letters(0), 2);
        due("X goes not back", bench.count(3), 45005);
        due("drop", bench.back(), 1);
        due("drop", bench.letters(0), 3);
        due("work", bench.back(), 0);
        due("work", bench.letters(0), 1);
        due("none", bench.back(), -1);
    }

    // ---- promise 34
    private static void seeds() {
        BladesBench bench = new BladesBench();
        due("seed 65536", bench.seed(65536), false);
        due("seed -1", bench.seed(-1), false);
        due("X", bench.count(3), 1);
        due("seed 65535", bench.seed(65535), true);
        due("X", bench.count(3), 65535);
        due("seed 0", bench.seed(0), true);
        due("X", bench.count(3), 0);
        bench.draws(1);
        due("u", bench.middle(0, 0), 13849 % 21 - 10);
        bench.seed(1);
        bench.draws(1);
        due("u", bench.middle(0, 0), -6);
    }

    // ---- promises 35 and 36
    private static void keepsAndUndoes() {
        BladesBench bench = made("A=1;B=2");
        due("nothing KEPT", bench.undo(), false);
        due("keep", bench.keep(), 2);
        due("keep does not forget", bench.count(1), 1);
        bench.draws(3);
        work(bench, "L=5");
        bench.drop(1);
        due("undo", bench.undo(), true);
        due("letters", bench.letters(0), 3);
        due("A", bench.part(0, 0), 1);
        due("B", bench.part(1, 0), 2);
        due("X", bench.count(3), 1);
        due("BACK is forgotten", bench.back(), -1);
        work(bench, "A=9");
        due("undo again", bench.undo(), true);
        due("A", bench.part(0, 0), 1);
        bench.drop(0);
        bench.seed(77);
        due("keep anew", bench.keep(), 1);
        bench.drop(1);
        bench.seed(5);
        bench.undo();
        due("as KEPT last", bench.letters(0), 2);
        due("X as KEPT last", bench.count(3), 77);
        BladesBench empty = new BladesBench();
        due("keep none", empty.keep(), 0);
        work(empty, "A=1");
        due("undo to none", empty.undo(), true);
        due("none", empty.letters(0), 0);
        bench.feed(0, 0, 0, 0, 0);
        bench.undo();
        due("the tape stays", bench.count(2), 20);
    }

    // ---- promise 37
    private static void checks() {
        BladesBench bench = made("A=@0,0;B=x;D=0;L=#x");
        due("right", check(bench, 2, 6, 255, 0), -1);
        due("the tape is empty", bench.count(2), 0);
        due("the first", check(bench, 3, 6), 0);
        due("the second", check(bench, 2, 2, 2), 1);
        due("none is not 0", check(bench, 2, 6, 0), 2);
        due("0 is not none", check(bench, 2, 6, 255, 255), 3);
        due("all", check(bench, 2, 6, 255, 0, 255, 255, 255, 255, 255, 255, 255, 16), -1);
        due("all but the last", check(bench, 2, 6, 255, 0, 255, 255, 255, 255, 255, 255, 255, 6), 11);
        due("check 0", bench.check(0), -1);
        bench.feed(0, 0, 0, 0, 0);
        due("check 13", bench.check(13), -2);
        due("check -1", bench.check(-1), -2);
        due("the tape stays", bench.count(2), 20);
        due("check 0", bench.check(0), -1);
        due("the tape is empty", bench.count(2), 0);
        due("check 1 of none", bench.check(1), -2);
    }

    // ---- promise 38
    private static void counts() {
        BladesBench bench = made("A=1;B=2;A=3");
        bench.seed(500);
        bench.feed(0, 0, 0, 0, 0);
        int[] want = {2, 1, 20, 500};
        for (int what = 0; what < 4; what++) due("count " + what, bench.count(what), want[what]);
        due("count -1", bench.count(-1), -1);
        due("count 4", bench.count(4), -1);
        due("count lowest", bench.count(Integer.MIN_VALUE), -1);
    }
}
