import java.lang.reflect.Method;
import java.util.Arrays;
import java.util.Comparator;

/**
 * "No call may ever throw or fail to end, for any arguments in any state": calls with drawn arguments, the extreme ones among
 * them, 512 on each museum, on states of all kinds. Two museums that get the same calls must answer alike.
 */
public final class AnyCallTest {
    private static final int[] ODD = {Integer.MIN_VALUE, Integer.MIN_VALUE + 1, -96, -20, -10, -2, -1, 0, 1, 2, 3, 8, 9, 10, 11, 19, 20,
        21, 39, 40, 41, 49, 50, 90, 91, 95, 96, 97, 99, 100, 160, 199, 200, 240, 260, 261, Integer.MAX_VALUE - 1, Integer.MAX_VALUE};
    private static final String SIGNS = "#c.;0123456789abcdefghijnesw().,:~ohiwflvrtqupxy+-*/%[]!&|<>=";
    /** Of the town, the law, reports, the tram, plans. */
    private static final String[][] TEXTS = {
        {"#2022;c7777;.2121", "#0099", "#0099;.0010;.4455", "c0000"},
        {"v14(1=1);h18(1=1);a[t/9+u]%8(1=1);lt/7+u*3(1=1);r10-p(1=1)", "v99999*99999(1/[t-5]<9);h9/[x-3](1=1);r11(1=1);a0-9(!(1=2&3>y))",
            "l65536*32768/[0-1](((((1%[p-1]=0|2=2)))))", "v3(p<5);h4(p>2)"},
        {"a0sb;b95~9oa;j5hb;a0~9i00", "a50~9wb99;b1f79;a5f00;b9f35", "a0ob", Museum.row("a0sb", ";", 30)},
        {"00:0,10:1,20:2,99:95", "00:0,00:1,00:2,00:3,00:4,00:5,00:6,00:7,00:8,00:9,00:10,00:11", "44:5"},
        {"00", "003e2(n.)", "559(9s.)", "00" + Museum.times("9.", 10) + "5e", "99" + Museum.times("w", 20), "44", "003n"},
    };
    private static long state = 20261118;

    public static void main(String[] args) throws ReflectiveOperationException {
        Method[] calls = calls();
        Museum.due("calls of the face", calls.length, 47);
        for (int run = 0; run < 150; run++) {
            run(calls, run);
        }
        Museum.end("AnyCallTest");
    }

    private static Method[] calls() {
        Method[] calls = Arrays.stream(DayMuseum.class.getDeclaredMethods())
            .filter(method -> java.lang.reflect.Modifier.isPublic(method.getModifiers())).toArray(Method[]::new);
        Arrays.sort(calls, Comparator.comparing(Method::toString));
        return calls;
    }

    private static int below(int n) {
        state = state * 6364136223846793005L + 1442695040888963407L;
        return (int) ((state >>> 33) % n);
    }

    private static int drawn(boolean tame) {
        switch (below(tame ? 12 : 6)) {
            case 0: return ODD[below(ODD.length)];
            case 1: return below(1 << 30) * (below(2) == 0 ? 3 : -3);
            case 2: return below(100);
            case 3: return below(12);
            case 4: return below(3);
            default: return below(10);
        }
    }

    private static void run(Method[] calls, int run) throws ReflectiveOperationException {
        DayMuseum one = new DayMuseum();
        DayMuseum other = new DayMuseum();
        int differ = 0;
        for (int made = 0; made < 500;) {
            int kind = made < 60 ? 4 : below(TEXTS.length);
            int n = made < 60 || below(3) == 0 ? fillTape(one, other, TEXTS[kind]) : 0;
            Method call = calls[below(calls.length)];
            Object[] arguments = new Object[call.getParameterCount()];
            for (int i = 0; i < arguments.length; i++) {
                arguments[i] = drawn(run % 2 == 0);
            }
            if (n > 0 && below(8) > 0) {
                differ += read(one, other, kind, n);
            }
            differ += call.invoke(one, arguments).equals(call.invoke(other, arguments)) ? 0 : 1;
            made += n / 20 + 3;
        }
        Museum.due("run " + run + ": answers that differ", differ, 0);
    }

    /** A text as it should be, one with a sign changed, or any bytes. */
    private static int fillTape(DayMuseum one, DayMuseum other, String[] texts) {
        int kind = below(8);
        String text = texts[below(texts.length)];
        byte[] bytes = new byte[20 * ((text.length() + 19) / 20)];
        for (int i = 0; i < bytes.length; i++) {
            bytes[i] = i < text.length() ? (byte) text.charAt(i) : (byte) ' ';
            if (kind == 0 || (kind < 3 && below(20) == 0)) {
                bytes[i] = (byte) (kind == 1 ? SIGNS.charAt(below(SIGNS.length())) : below(256));
            }
        }
        for (int i = 0; i < bytes.length; i += 20) {
            int[] w = new int[5];
            for (int k = 0; k < 20; k++) {
                w[k / 4] = w[k / 4] << 8 | (bytes[i + k] & 255);
            }
            one.feed(w[0], w[1], w[2], w[3], w[4]);
            other.feed(w[0], w[1], w[2], w[3], w[4]);
        }
        return text.length();
    }

    private static int read(DayMuseum one, DayMuseum other, int kind, int n) {
        switch (kind) {
            case 0: return one.town(n) == other.town(n) ? 0 : 1;
            case 1: return one.law(n) == other.law(n) ? 0 : 1;
            case 2: return one.reports(n) == other.reports(n) ? 0 : 1;
            case 3: return one.tram(n) == other.tram(n) ? 0 : 1;
            default:
                int p = below(10);
                int v = below(3);
                return one.plan(p, v, n) == other.plan(p, v, n) ? 0 : 1;
        }
    }
}
