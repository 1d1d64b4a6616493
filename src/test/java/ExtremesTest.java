import java.lang.reflect.InvocationTargetException;
import java.lang.reflect.Method;

/** Every public call with every mixture of far-off, edge and ordinary numbers: none throws, none fails to end. */
public final class ExtremesTest {
    private static final int[] NUMBERS = {Integer.MIN_VALUE, -100, -1, 0, 1, 5, 12, 63, 120, 4095, 65536, Integer.MAX_VALUE};
    private static final String[] TEXTS = {
        "A=x;B=x-f;C=y;D=9999*9999*x;E=@0,0-f;F=@1,2-3*f;G=@5,3;H=@1,1;I=1+x*f;J=#(y^(@0,0-4*f));K=0;L=1+x*y",
        "A=9999*9999*(1+x+y+p+m+w);B=A>1;C=!A;D=9999*9999*f;E=D&w;F=x*y+p*m;G=x*f;H=x*m;I=@99,99",
        "B=9999*9999*(x+y+p-m);F=9999*9999*(x*p-y*m);A=9999*9999*x*y*p;M"};
    private static int calls = 0;
    private static int wrong = 0;

    public static void main(String[] args) throws Exception {
        for (String text : TEXTS) {
            for (Method method : BladesBench.class.getDeclaredMethods()) {
                if ((method.getModifiers() & java.lang.reflect.Modifier.PUBLIC) != 0) tryAll(method, text);
            }
        }
        System.out.println(calls + " calls, " + wrong + " thrown");
        if (wrong != 0) System.exit(1);
    }

    private static BladesBench made(String text) {
        BladesBench bench = new BladesBench();
        for (int round = 0; round < 2; round++) {
            for (int at = 0; at < text.length(); at += 20) {
                int[] words = new int[5];
                for (int i = 0; i < 20 && at + i < text.length(); i++) words[i / 4] |= text.charAt(at + i) << 24 - i % 4 * 8;
                bench.feed(words[0], words[1], words[2], words[3], words[4]);
            }
            if (round == 0) bench.work(text.length());
            else bench.book(text.length());
        }
        bench.feed(-1, -1, -1, -1, -1);
        return bench;
    }

    private static void tryAll(Method method, String text) throws Exception {
        int parameters = method.getParameterCount();
        int[] some = parameters < 4 ? NUMBERS : parameters == 4 ? new int[] {Integer.MIN_VALUE, -1, 0, 1, 7, 12, Integer.MAX_VALUE}
            : new int[] {Integer.MIN_VALUE, 0, Integer.MAX_VALUE};
        int mixtures = 1;
        for (int i = 0; i < parameters; i++) mixtures *= some.length;
        BladesBench bench = made(text);
        for (int mixture = 0; mixture < mixtures; mixture++) {
            Object[] arguments = new Object[parameters];
            int rest = mixture;
            for (int i = 0; i < parameters; i++) {
                arguments[i] = some[rest % some.length];
                rest /= some.length;
            }
            calls++;
            try {
                method.invoke(bench, arguments);
            } catch (InvocationTargetException thrown) {
                wrong++;
                System.out.println(method + " " + java.util.Arrays.toString(arguments) + ": " + thrown.getCause());
            }
        }
    }
}
