/**
 * The boundaries of a TEXT, as the document's Terms and the promises 2, 3, 23 and 24 name them: what may stand where,
 * the FAULTS and their places, each just inside and just outside.
 */
public final class TextBoundsTest extends Asking {
    private static final String UNITS = "xypmwf";
    private static final String OPENERS = "(~#!-";
    private static final String SIGNS = "+-*^.&>";

    public static void main(String[] args) {
        stepsBytes();
        factorsBytes();
        bytesBehindFactors();
        placesBytes();
        gradesBytes();
        theEnd();
        digits();
        placeNumbers();
        grades();
        thirteenSteps();
        sevenOpen();
        closedAgain();
        lettersThatStandForNone();
        theBoundOfEachSign();
        theBoundOfEachPart();
        theBoundOnTheWay();
        theBoundAndWhatIsRead();
        theFirstFromTheLeft();
        binding();
        nothingAtAll();
        lengths();
        close();
    }

    /** What a TEXT is due to answer when a byte stands at its end; 0: the byte can't stand there. */
    private interface Rule {
        int due(char sign);
    }

    /** All 256 bytes behind a beginning: 1 at the byte's place if it can't stand there. */
    private static void bytes(String beginning, Rule rule) {
        for (int sign = 0; sign < 256; sign++) {
            int want = rule.due((char) sign);
            answers(beginning + (char) sign, want != 0 ? want : -1000 - beginning.length());
        }
    }

    private static boolean isIn(String signs, char sign) {
        return signs.indexOf(sign) >= 0;
    }

    private static boolean isLetter(char sign) {
        return sign >= 'A' && sign <= 'L';
    }

    private static boolean isDigit(char sign) {
        return sign >= '0' && sign <= '9';
    }

    // ---- FAULT 1: what can't stand there

    private static void stepsBytes() {
        bytes("", sign -> isLetter(sign) ? -1001 : 0);
        bytes("A", sign -> sign == '=' ? -1002 : 0);
        bytes("L", sign -> sign == '=' ? -1002 : 0);
        bytes("A=1;", sign -> isLetter(sign) ? -1005 : 0);
        bytes("A=1;B", sign -> sign == '=' ? -1006 : 0);
        answers("=1", -1000);
        answers("A=1;=1", -1004);
        answers("a=1", -1000);
    }

    /** Where an F stands, so many bytes from the left; the end behind it is right, or a FAULT 1 too. */
    private static int factor(char sign, int at, boolean ends) {
        if (isDigit(sign) || isIn(UNITS, sign)) return ends ? 1 : -1001 - at;
        if (isLetter(sign)) return -7000 - at;
        return isIn(OPENERS, sign) || sign == 'g' || sign == '@' ? -1001 - at : 0;
    }

    private static void factorsBytes() {
        for (String beginning : new String[] {"A=", "A=1+", "A=x-", "A=1*", "A=x^", "A=x.", "A=x&", "A=1>", "A=-",
            "A=~", "A=#", "A=!", "A=g0", "A=g4", "A=1;B=", "A=(1)*", "A=-~#"}) {
            bytes(beginning, sign -> isLetter(sign) && beginning.startsWith("A=1;") && sign == 'A' ? 2
                : factor(sign, beginning.length(), true) == 1 && beginning.contains(";") ? 2
                : factor(sign, beginning.length(), true));
        }
        for (String beginning : new String[] {"A=(", "A=~(", "A=(1+", "A=(x*", "A=(("}) {
            bytes(beginning, sign -> factor(sign, beginning.length(), false));
        }
    }

    private static void bytesBehindFactors() {
        for (String factor : new String[] {"x", "w", "f", "(1)", "~x", "1234", "x*y", "g1x", "((1))"}) {
            String text = "A=" + factor;
            bytes(text, sign -> isIn(SIGNS, sign) || sign == ';' ? -1001 - text.length() : digitBehind(factor, sign));
            String open = "A=(" + factor;
            bytes(open, sign -> isIn(SIGNS, sign) ? -1001 - open.length()
                : sign == ')' ? 1 : digitBehind(factor, sign) == 0 ? 0 : digitBehind(factor, sign) - 1);
        }
        bytes("A=1", sign -> isDigit(sign) ? 1 : isIn(SIGNS, sign) || sign == ';' ? -1004 : 0);
        bytes("A=(1", sign -> isDigit(sign) ? -1005 : isIn(SIGNS, sign) ? -1005 : sign == ')' ? 1 : 0);
        answers("A=1;B=A;", -1008);
        answers("A=1)", -1003);
        answers("A=((1)", -1006);
        answers("A=((1))", 1);
        answers("A=((1)))", -1007);
    }

    private static int digitBehind(String factor, char sign) {
        return isDigit(sign) && factor.equals("1234") ? -2006 : 0;
    }

    private static void placesBytes() {
        bytes("A=@", sign -> isDigit(sign) || sign == '-' ? -1004 : 0);
        bytes("A=@-", sign -> isDigit(sign) ? -1005 : 0);
        bytes("A=@1", sign -> isDigit(sign) || sign == ',' ? -1005 : 0);
        bytes("A=@-1", sign -> isDigit(sign) || sign == ',' ? -1006 : 0);
        bytes("A=@1,", sign -> isDigit(sign) ? 1 : sign == '-' ? -1006 : 0);
        bytes("A=@1,-", sign -> isDigit(sign) ? 1 : 0);
        bytes("A=@1,2", sign -> isDigit(sign) ? 1 : isIn(SIGNS, sign) || sign == ';' ? -1007 : 0);
    }

    private static void gradesBytes() {
        bytes("A=g", sign -> !isDigit(sign) ? 0 : sign <= '4' ? -1004 : -3003);
        bytes("A=1+g", sign -> !isDigit(sign) ? 0 : sign <= '4' ? -1006 : -3005);
        answers("A=g11", 1);
        answers("A=g11234", 1);
        answers("A=g112345", -2008);
    }

    private static void theEnd() {
        String text = "A=g2(@-12,-3*#x);B=~A>!7";
        for (int n = 1; n < text.length(); n++) {
            boolean ends = n == 16 || n == 21;
            if (!ends) answers(text.substring(0, n), -1000 - n);
        }
        answers(text, 2);
        answers(text.substring(0, 16), 1);
        answers(text.substring(0, 21), 2);
        for (char sign : SIGNS.toCharArray()) answers("A=1" + sign, -1004);
    }

    // ---- FAULT 2 and 3: NUMBERS

    private static void digits() {
        int[] numbers = {0, 9, 10, 99, 100, 999, 1000, 9999};
        for (int number : numbers) {
            due("A=" + number, made("A=" + number).part(0, 0), number);
            due("A=x+" + number, made("A=x+" + number).part(0, 0), number);
        }
        due("leading noughts", made("A=0007").part(0, 0), 7);
        answers("A=10000", -2006);
        answers("A=00007", -2006);
        answers("A=123456", -2006);
        answers("A=(10000)", -2007);
        answers("A=x*10000", -2008);
        answers("A=1;B=99999", -2010);
        answers("A=9999*9999", 1);
    }

    private static void placeNumbers() {
        for (int number = 0; number <= 9999; number += number < 120 || number > 9990 ? 1 : 37) {
            boolean fits = number <= 99;
            answers("A=@" + number + ",0", fits ? 1 : -3003);
            answers("A=@-" + number + ",0", fits ? 1 : -3004);
            answers("A=@0," + number, fits ? 1 : -3005);
            answers("A=@0,-" + number, fits ? 1 : -3006);
        }
        due("@-99,99", made("A=@-99,99").part(0, 1), -198);
        due("@-99,99", made("A=@-99,99").part(0, 2), 198);
        due("@-0,1", made("A=@-0,1").part(0, 1), 0);
        answers("A=@0099,-0099", 1);
        answers("A=@0100,0", -3003);
        // Asked when it ends: whatever stands behind it, the end too.
        answers("A=@100", -3003);
        answers("A=@100$", -3003);
        answers("A=@100;", -3003);
        answers("A=@1,100", -3005);
        answers("A=@1,100$", -3005);
        answers("A=@1,100*B", -3005);
        // A fifth digit comes before it ends.
        answers("A=@10000,0", -2007);
        answers("A=@00000,0", -2007);
        answers("A=@-10000,0", -2008);
        answers("A=@0,10000", -2009);
        answers("A=@0,-00001", -2010);
    }

    private static void grades() {
        int[][] kept = {{0, 5}, {1, 7}, {3, 9}, {7, 11}, {15, 13}};
        for (int grade = 0; grade <= 4; grade++) {
            BladesBench bench = made("A=g" + grade + "(5+7*x+9*x*y+11*x*y*p+13*w)");
            for (int k = 0; k <= 4; k++) {
                due("g" + grade + ", part " + kept[k][0], bench.part(0, kept[k][0]), k == grade ? kept[k][1] : 0);
            }
        }
        answers("A=g5x", -3003);
        answers("A=g5", -3003);
        answers("A=g9(", -3003);
        answers("A=~g5x", -3004);
        answers("A=g4g5x", -3005);
        answers("A=g4g4x", 1);
    }

    // ---- FAULT 4: a 13th STEP

    private static void thirteenSteps() {
        StringBuilder text = new StringBuilder();
        for (int steps = 1; steps <= 12; steps++) {
            text.append(steps > 1 ? ";" : "").append((char) ('A' + steps - 1)).append("=").append(steps);
            answers(text.toString(), steps);
        }
        int end = text.length();
        String twelve = text + ";";
        answers(twelve, -4001 - end);
        for (int sign = 0; sign < 256; sign++) answers(twelve + (char) sign, -4001 - end);
        answers(twelve + "A=1", -4001 - end);
        answers(twelve + "A=1;B=2", -4001 - end);
        answers(text + ";;", -4001 - end);
        answers(text + "$;A=1", -1000 - end);
        answers(text.substring(0, end - 2) + "$;A=1", -1000 - (end - 2));
        answers("A=1;B=2;C=3;D=4;E=5;F=6;G=7;H=8;I=9;J=1;K=2;LL", -1045);
    }

    // ---- FAULT 5: a seventh that is open

    private static void sevenOpen() {
        for (String opener : new String[] {"(", "~", "#", "!", "-", "g0", "g1", "g2", "g3", "g4"}) {
            String six = opener.repeat(6);
            String closed = opener.equals("(") ? "))))))" : "";
            answers("A=" + six + "x" + closed, 1);
            answers("A=" + six + opener + "x" + closed + ")", -5002 - six.length());
            answers("A=" + six + "~x", -5002 - six.length());
            answers("A=" + six + "(", -5002 - six.length());
            answers("A=" + six + "g", -5002 - six.length());
            answers("A=" + six + "g9", -5002 - six.length());
            answers("A=" + six, -1002 - six.length());
            answers("A=" + six + ";", -1002 - six.length());
            answers("A=" + six + "B", -7002 - six.length());
        }
        String[] openers = {"(", "~", "#", "!", "-", "g2"};
        for (int first = 0; first < 6; first++) {
            for (int step = 1; step < 6; step += 4) {
                StringBuilder six = new StringBuilder("A=");
                int brackets = 0;
                for (int i = 0; i < 6; i++) {
                    String opener = openers[(first + i * step) % 6];
                    six.append(opener);
                    if (opener.equals("(")) brackets++;
                }
                answers(six + "x" + ")".repeat(brackets), 1);
                for (String seventh : openers) answers(six + seventh + "x", -5000 - six.length());
            }
        }
    }

    private static void closedAgain() {
        answers("A=((((((x))))))*((((((y))))))", 1);
        answers("A=((((((x))))))*(((((((y", -5022);
        answers("A=~~~~~~x*~~~~~~x+~~~~~~x", 1);
        answers("A=~~~~~~x*~~~~~~~x", -5016);
        answers("A=(((((~x*~x+~x)))))", 1);
        answers("A=(((((~x*~~x", -5011);
        answers("A=~(~(~(x)*~~x)*~x)", 1);
        answers("A=~(~(~(x)*~~~x)*~x)", -5013);
        answers("A=~(~(~x*~x)*~~x)", 1);
        answers("A=~(x)*~(x)*~(x)*~(x)", 1);
        // A - between two T opens nothing, nor does one in a PLACE.
        answers("A=x-x-x-x-x-x-x-x", 1);
        answers("A=((((((x-x))))))", 1);
        answers("A=((((((x--x", -5010);
        answers("A=(((((x--x)))))", 1);
        answers("A=~~~~~~@-1,-1", 1);
        answers("A=~~~~~~-1", -5008);
        answers("A=~~~~~~x;B=~~~~~~x", 2);
    }

    // ---- FAULT 7: a LETTER that stands for none

    private static void lettersThatStandForNone() {
        for (char letter = 'A'; letter <= 'L'; letter++) {
            answers(letter + "=" + letter, -7002);
            answers(letter + "=1;" + letter + "=" + letter, 2);
            answers("A=1+" + letter, -7004);
            answers("A=(" + letter + ")", -7003);
            answers("A=1;B=" + letter, letter == 'A' ? 2 : -7006);
            answers("A=1;B=A;C=~" + letter, letter <= 'B' ? 3 : -7011);
        }
        BladesBench bench = made("C=5");
        due("it stood ahead of WORK", work(bench, "A=C;C=A"), 2);
        bench.drop(2);
        due("dropped", work(bench, "A=C"), -7002);
        due("another one stays", work(bench, "C=A"), 1);
        bench.draws(2);
        due("drawn", work(bench, "D=A*B"), 1);
        answers("A=B;B=1", -7002);
        answers("A=B$", -7002);
    }

    // ---- FAULT 8: beyond the BOUND

    private static void two(String what, long[] one, long[] other, String expression, int want) {
        due(what + " " + expression, work(with(one, other), "C=" + expression), want);
    }

    /** 100,000,001 is 17 times 5882353; 100,000,000 is 10,000 times itself. */
    private static void theBoundOfEachSign() {
        long[] tenThousand = form(0, 10_000);
        long[] seventeen = form(0, 17);
        long[] other = form(0, 5_882_353);
        for (String sign : new String[] {"*", "^", "."}) {
            two("100000000", tenThousand, tenThousand, "A" + sign + "B", 1);
            two("-100000000", tenThousand, times(-1, tenThousand), "A" + sign + "B", 1);
            two("100000001", seventeen, other, "A" + sign + "B", -8003);
            two("-100000001", seventeen, times(-1, other), "A" + sign + "B", -8003);
        }
        two("100000000", form(15, 10_000), form(15, 10_000), "A&B", 1);
        two("-100000000", form(15, 10_000), form(15, -10_000), "A&B", 1);
        two("100000001", form(15, 17), form(15, 5_882_353), "A&B", -8003);
        two("-100000001", form(15, -17), form(15, 5_882_353), "A&B", -8003);
        two("MIRRORED, 100000000", form(1, 10_000), form(0, 1), "A>B", 1);
        two("MIRRORED, 100000001", form(1, 10_000, 2, 1), form(0, 1), "A>B", -8003);
        two("MIRRORED, -100000000", form(1, 10_000), form(0, -1), "A>B", 1);
        two("MIRRORED, -100000001", form(1, 10_000, 2, 1), form(0, -1), "A>B", -8003);
        two("+ 100000000", form(0, 99_999_999), form(0, 1), "A+B", 1);
        two("+ 100000001", form(0, 100_000_000), form(0, 1), "A+B", -8003);
        two("+ -100000000", form(0, -99_999_999), form(0, -1), "A+B", 1);
        two("+ -100000001", form(0, -100_000_000), form(0, -1), "A+B", -8003);
        two("- 100000000", form(0, 99_999_999), form(0, -1), "A-B", 1);
        two("- 100000001", form(0, 100_000_000), form(0, -1), "A-B", -8003);
        two("- -100000000", form(0, -99_999_999), form(0, 1), "A-B", 1);
        two("- -100000001", form(0, -100_000_000), form(0, 1), "A-B", -8003);
        two("- ahead of an F", form(0, 100_000_000), form(0, 1), "-A", 1);
        two("DUAL, REVERSE, NORMAL, GRADE", form(3, 100_000_000), form(0, 1), "#~!g2A", 1);
    }

    private static void theBoundOfEachPart() {
        for (int part = 0; part < 16; part++) {
            long[] most = form(part, 100_000_000);
            two("PART " + part, most, form(part, 1), "A+B", -8003);
            two("PART " + part, most, form(part, 1), "A-B", 1);
            two("PART " + part, most, form(part ^ 1, 1), "A+B", 1);
            two("PART " + part, times(-1, most), form(part, 1), "A-B", -8003);
            two("PART " + part, form(0, 17), form(part, 5_882_353), "A*B", -8003);
            two("PART " + part, form(0, 17), form(part, 5_882_352), "A*B", 1);
        }
    }

    /** V > X also V TIMES X, of a MEET also the OUTER of the DUALS; a FORM in between, though the last one fits. */
    private static void theBoundOnTheWay() {
        two("V TIMES X beyond", form(4, 17, 8, 17), form(0, 5_882_353), "A>B", -8003);
        two("V TIMES X within", form(4, 10_000, 8, 10_000), form(0, 10_000), "A>B", 1);
        due("all of it is 0", made("A=9999*9999*f;B=A>1").formIs(1, 0), 0);
        two("beyond, then less", form(0, 100_000_000), form(0, 1), "A+B-B", -8003);
        two("less, then more", form(0, 100_000_000), form(0, 1), "A-B+B", 1);
        two("beyond, then 0", form(0, 17), form(0, 5_882_353), "A*B*0", -8003);
        two("0, then more", form(0, 17), form(0, 5_882_353), "A*0*B", 1);
        two("beyond in ( )", form(0, 17), form(0, 5_882_353), "g1(A*B)", -8006);
        two("beyond in a second STEP", form(0, 17), form(0, 5_882_353), "A;D=C*B", -8007);
        two("the second sign", form(0, 17), form(0, 5_882_353), "A+A*B", -8005);
        two("the + ahead", form(0, 99_999_999), form(0, 2), "A+B*1", -8003);
    }

    /** Asked when what stands behind the sign has been read: behind a SIGN an F, behind + or - a T. */
    private static void theBoundAndWhatIsRead() {
        long[] a = form(0, 17);
        long[] b = form(0, 5_882_353);
        two("the end", a, b, "A*", -1004);
        two("none behind", a, b, "A*D", -7004);
        two("a fifth digit behind", a, b, "A*99999", -2008);
        two("an open ( behind", a, b, "A*(B", -1006);
        two("a FAULT in ( ) behind", a, b, "A*(B$)", -1006);
        two("what stands behind the F", a, b, "A*B$", -8003);
        two("what stands behind the F", a, b, "A*B*D", -8003);
        two("what stands behind the F", a, b, "A*B+D", -8003);
        two("what stands behind the F", a, b, "A*B)", -8003);
        long[] most = form(0, 100_000_000);
        two("a T behind +", most, b, "A+B*D", -7006);
        two("a T behind +", most, b, "A+B*$", -1006);
        two("a T behind +", most, b, "A+B*B", -8005);
        two("a T behind -", most, b, "A--B.D", -7007);
        two("behind the T", most, b, "A+B+D", -8003);
        two("behind the T", most, b, "A+B$", -8003);
        two("behind the T", most, b, "A+B;$", -8003);
        two("a fifth digit ends no T", most, b, "A+12345", -2008);
        two("a seventh open behind", most, b, "A+(((((((1", -5010);
    }

    private static void theFirstFromTheLeft() {
        answers("A=B;C", -7002);
        answers("A=1$;B=C", -1003);
        answers("A=@100,12345", -3003);
        answers("A=@12345,100", -2007);
        answers("A=g5~~~~~~~x", -3003);
        answers("A=~~~~~~~g5x", -5008);
        answers("A=12345;B=C;", -2006);
        answers("A=C;B=12345", -7002);
        answers("M=B", -1000);
        answers("A=9999*9999*2;B=$", -8011);
        answers("A=$;B=9999*9999*2", -1002);
    }

    /** SIGNS bind closer than + and -, from the left on; what stands ahead of an F binds closest. */
    private static void binding() {
        String[] alike = {"x>y>(x+p)", "(x>y)>(x+p)", "x.y*x", "(x.y)*x", "2+3*4-5", "(2+(3*4))-5", "7-2-3", "(7-2)-3",
            "-x*y", "(-x)*y", "#x^y", "(#x)^y", "!6*x", "(!6)*x", "g1x*y", "(g1x)*y", "~(x*y)*x", "(~(x*y))*x",
            "#x&#y&#p", "(#x&#y)&#p", "x*y^p.m", "((x*y)^p).m", "x+y>x", "x+(y>x)", "(x+y)>x", "(x+y)>(x)", "--x", "x",
            "w*x", "(x*y*p*m)*x", "f*y", "(p+m)*y", "1-@1,2-@-3,4", "1-(@1,2)-(@-3,4)"};
        for (int i = 0; i < alike.length; i += 2) {
            BladesBench bench = made("A=" + alike[i] + ";B=" + alike[i + 1]);
            for (int part = 0; part < 16; part++) {
                due(alike[i] + ", part " + part, bench.part(0, part), bench.part(1, part));
            }
        }
        due("from the left on", made("A=(x+y)*x^x").part(0, 7) + made("A=(x*y)^x*x").part(0, 3), 0);
        due("from the left on", made("A=x^x*x").formIs(0, 0), 0);
        due("from the left on", made("A=x*x^x").part(0, 1), 1);
    }

    private static void nothingAtAll() {
        for (String text : new String[] {"B=7;A=9;C=$", "A=1;A=2;A=D", "A=1;A=99999", "A=1;A=@100,1", "A=1;A=g5x",
            "A=1;A=~~~~~~~x", "A=1;A=9999*9999*2", "A=1;B=2;C=3;D=4;E=5;F=6;G=7;H=8;I=9;J=1;K=2;L=3;"}) {
            BladesBench bench = made("A=5;B=x");
            int answer = work(bench, text);
            due("a FAULT: " + text, answer <= -1000, true);
            due("tape behind " + text, bench.count(2), 0);
            due("letters behind " + text, bench.letters(0), 3);
            due("A behind " + text, bench.part(0, 0), 5);
            due("B behind " + text, bench.part(1, 1), 1);
            due("back behind " + text, bench.count(1), 1);
            due("none behind " + text, work(bench, "D=C"), -7002);
            book(bench, text);
            due("run " + text, bench.run(), answer);
            due("run again " + text, bench.run(), answer);
            due("letters behind run " + text, bench.letters(0), 3);
            due("A behind run " + text, bench.part(0, 0), 5);
            due("back behind run " + text, bench.back(), 0);
        }
    }

    /** A TEXT of at most 120 bytes; the tape of at most 140. */
    private static void lengths() {
        String most = "A=1" + "+1".repeat(58) + " ";
        for (int n = 1; n <= 140; n++) {
            BladesBench bench = new BladesBench();
            lay(bench, most + "+".repeat(20));
            int want = n > 120 ? -1 : n < 4 ? n < 3 ? -1000 - n : 1 : n == 120 ? -1119 : n % 2 == 0 ? -1000 - n : 1;
            due("work " + n, bench.work(n), want);
            due("tape behind work " + n, bench.count(2), n > 120 ? 140 : 0);
        }
        for (int bytes = 20; bytes <= 140; bytes += 20) {
            BladesBench bench = new BladesBench();
            lay(bench, "A=1;" + "x".repeat(bytes - 4));
            due("tape", bench.count(2), bytes);
            due("work more than there is", bench.work(bytes + 1), -1);
            due("book more than there is", bench.book(bytes + 1), -1);
            due("the tape stays", bench.count(2), bytes);
            int all = Math.min(bytes, 120);
            due("book all", bench.book(all), all);
            due("tape", bench.count(2), 0);
            due("run all", bench.run(), -1004);
            due("book 1 of none", bench.book(1), -1);
            due("work 1 of none", bench.work(1), -1);
            due("feed behind", bench.feed(0, 0, 0, 0, 0), 20);
        }
        String full = "A=1" + "+1".repeat(58) + ";";
        answers(full, -1120);
        answers(full.substring(0, 117) + "+12", 1);
        due("120 bytes of THE BOOK", book(new BladesBench(), full), 120);
    }
}
