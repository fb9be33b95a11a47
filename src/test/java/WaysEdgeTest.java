/** Edges of BETWEEN, MET and PAGED: promises 23, 24, 25, 26 and 36. */
public final class WaysEdgeTest {
    private static final int MOST = Integer.MAX_VALUE;
    private static final int LEAST = Integer.MIN_VALUE;

    public static void main(String[] args) {
        minutes();
        noSuchOnes();
        notPlain();
        noTime();
        steps();
        longest();
        through();
        maybe();
        met();
        noWay();
        paged();
        pagedOffItsSpot();
        pagedRefused();
        Museum.end("WaysEdgeTest");
    }

    private static void minutes() {
        Museum.says("on a SPOT in MINUTE b (a to a + 20)");
        Museum m = new Museum();
        m.town("#0099;.0010");
        for (int length = 0; length <= 20; length++) {
            Museum.due(length + " minutes", m.x.between(0, 5, 0, 5 + length), length == 0 ? 1 : 1L << length - 1);
        }
        all(m, 0, 5, 0, 26, 5, -1);
        all(m, 0, 5, 0, 4, 5, -1);
        Museum.says("MINUTES 0 to 95");
        Museum.due("from 0", m.x.between(0, 0, 1, 20), 1 << 19);
        Museum.due("to 95", m.x.between(0, 75, 1, 95), 1 << 19);
        Museum.due("95 alone", m.x.between(1, 95, 1, 95), 1);
        all(m, 0, -1, 0, 0, 0, -1);
        all(m, 0, -1, 0, -1, -1, -1);
        all(m, 0, 95, 0, 96, 95, -1);
        all(m, 0, 96, 0, 96, 96, -1);
        all(m, 0, 90, 0, 110, 95, -1);
        all(m, 0, MOST, 0, LEAST, 0, -1);
        all(m, 0, LEAST, 0, MOST, 0, -1);
        all(m, 0, MOST, 0, MOST, MOST, -1);
        all(m, 0, LEAST, 0, LEAST, LEAST, -1);
    }

    /** All four calls have one answer. */
    private static void all(Museum m, int from, int a, int to, int b, int minute, int want) {
        String of = "(" + from + ", " + a + ", " + to + ", " + b + ")";
        Museum.due("between" + of, m.x.between(from, a, to, b), want);
        Museum.due("through" + of, m.x.through(from, a, to, b, 0, minute), want);
        Museum.due("maybe" + of, m.x.maybe(from, a, to, b, minute), want);
        Museum.due("met" + of, m.x.met(from, a, to, b), want);
    }

    private static void noSuchOnes() {
        Museum.says("by SPOTS (0 to 99); -1: no such ones");
        Museum m = new Museum();
        Museum.due("0 and 99", m.x.between(0, 0, 99, 18) > 0, true);
        Museum.due("99 and 0", m.x.between(99, 0, 0, 18), m.x.between(0, 0, 99, 18));
        for (int spot : new int[] {-1, 100, MOST, LEAST}) {
            all(m, spot, 3, 0, 5, 4, -1);
            all(m, 0, 3, spot, 5, 4, -1);
            Museum.due("through " + spot, m.x.through(0, 3, 0, 5, spot, 4), -1);
        }
    }

    private static void notPlain() {
        Museum.says("both SPOTS plain; -1: a SPOT that is not plain");
        Museum m = new Museum();
        m.town("#0000;c9999");
        all(m, 0, 3, 1, 5, 4, -1);
        all(m, 1, 3, 0, 5, 4, -1);
        all(m, 99, 3, 98, 5, 4, -1);
        all(m, 98, 3, 99, 5, 4, -1);
        all(m, 0, 3, 0, 3, 3, -1);
        Museum.says("on a SPOT (0 to 99): a wall, a canal is one, too");
        Museum.due("a wall", m.x.through(1, 3, 1, 5, 0, 4), 0);
        Museum.due("a canal", m.x.through(98, 3, 98, 5, 99, 4), 0);
        Museum.due("on it", m.x.maybe(1, 3, 1, 5, 4), 3);
        m.town(".0000");
        Museum.due("plain again", m.x.through(1, 3, 1, 5, 0, 4), 1);
        Museum.due("on it", m.x.maybe(1, 3, 1, 5, 4), 4);
    }

    private static void noTime() {
        Museum.says("on a SPOT in MINUTE b (a ..): b as a");
        Museum m = new Museum();
        Museum.due("one way", m.x.between(0, 7, 0, 7), 1);
        Museum.due("over its spot", m.x.through(0, 7, 0, 7, 0, 7), 1);
        Museum.due("over another one", m.x.through(0, 7, 0, 7, 1, 7), 0);
        Museum.due("on one spot", m.x.maybe(0, 7, 0, 7, 7), 1);
        Museum.due("nobody is met", m.x.met(0, 7, 0, 7), 0);
        Museum.due("no way to another spot", m.x.between(0, 7, 1, 7), 0);
    }

    private static void steps() {
        Museum.says("in each MINUTE a STEP in 4 ways to a plain SPOT, or it stays");
        Museum m = new Museum();
        int[] near = {54, 45, 34, 43, 44};
        for (int to : near) {
            Museum.due("in one minute to " + to, m.x.between(44, 0, to, 1), 1);
        }
        for (int to : new int[] {55, 53, 33, 35, 46, 64, 42, 24}) {
            Museum.due("in one minute to " + to, m.x.between(44, 0, to, 1), 0);
        }
        Museum.says("no way off the town's edge");
        for (int y = 0; y < 9; y++) {
            Museum.due("from its end to the next row", m.x.between(10 * y + 9, 0, 10 * y + 10, 1), 0);
            Museum.due("from its start to the row below", m.x.between(10 * y + 10, 0, 10 * y + 9, 1), 0);
        }
        Museum.due("in a corner", m.x.maybe(0, 0, 0, 2, 1), 3);
        Museum.due("in a corner", m.x.maybe(9, 0, 9, 2, 1), 3);
        Museum.due("in a corner", m.x.maybe(90, 0, 90, 2, 1), 3);
        Museum.due("in a corner", m.x.maybe(99, 0, 99, 2, 1), 3);
        Museum.due("on an edge", m.x.maybe(5, 0, 5, 2, 1), 4);
        Museum.due("amidst", m.x.maybe(55, 0, 55, 2, 1), 5);
        m.town("#4545;c5454;#3443;.4444;.3333");
        Museum.due("walls and canals round it", m.x.between(44, 0, 44, 20), 1);
    }

    private static void longest() {
        Museum.says("how many ways: more than 32 bits hold");
        Museum m = new Museum();
        m.town("#0099;.0011");
        // in a town of four spots each minute has three ways on
        long sum = 0;
        long power = 1;
        for (int spot : new int[] {0, 1, 10, 11}) {
            sum += m.x.between(0, 30, spot, 50);
        }
        for (int i = 0; i < 20; i++) {
            power *= 3;
        }
        Museum.due("3 to the 20th", sum, power);
        m.town(".0000");
        long over = 0;
        for (int spot = 0; spot < 100; spot++) {
            over += m.x.through(44, 0, 55, 20, spot, 10);
        }
        Museum.due("all ways are somewhere in the middle", over, m.x.between(44, 0, 55, 20));
        Museum.due("many", over > 1L << 40, true);
    }

    private static void through() {
        Museum.says("in MINUTE m (a to b)");
        Museum m = new Museum();
        Museum.due("a", m.x.through(44, 5, 46, 8, 44, 5), 3);
        Museum.due("b", m.x.through(44, 5, 46, 8, 46, 8), 3);
        Museum.due("a, elsewhere", m.x.through(44, 5, 46, 8, 46, 5), 0);
        Museum.due("b, elsewhere", m.x.through(44, 5, 46, 8, 44, 8), 0);
        Museum.due("a - 1", m.x.through(44, 5, 46, 8, 44, 4), -1);
        Museum.due("b + 1", m.x.through(44, 5, 46, 8, 46, 9), -1);
        Museum.due("the least", m.x.through(44, 5, 46, 8, 46, LEAST), -1);
        Museum.due("the most", m.x.through(44, 5, 46, 8, 46, MOST), -1);
        Museum.due("20 minutes", m.x.through(0, 75, 99, 95, 99, 95), m.x.between(0, 75, 99, 95));
        Museum.due("20 minutes, at the start", m.x.through(0, 75, 99, 95, 0, 75), m.x.between(0, 75, 99, 95));
        Museum.says("0: none");
        Museum.due("no way", m.x.through(44, 5, 49, 6, 44, 5), 0);
        Museum.due("spot 0", m.x.through(0, 5, 1, 6, 0, 5), 1);
        Museum.due("spot 99", m.x.through(99, 5, 99, 6, 99, 6), 1);
    }

    private static void maybe() {
        Museum.says("on how many SPOTS it may be in MINUTE m (a to b)");
        Museum m = new Museum();
        Museum.due("a", m.x.maybe(44, 5, 46, 9, 5), 1);
        Museum.due("b", m.x.maybe(44, 5, 46, 9, 9), 1);
        Museum.due("a + 1", m.x.maybe(44, 5, 46, 9, 6), 5);
        Museum.due("a - 1", m.x.maybe(44, 5, 46, 9, 4), -1);
        Museum.due("b + 1", m.x.maybe(44, 5, 46, 9, 10), -1);
        Museum.due("the least", m.x.maybe(44, 5, 46, 9, LEAST), -1);
        Museum.due("the most", m.x.maybe(44, 5, 46, 9, MOST), -1);
        Museum.due("no way", m.x.maybe(44, 5, 49, 6, 5), 0);
        Museum.due("as far as it goes", m.x.maybe(0, 0, 99, 18, 9), 10);
        Museum.due("20 minutes", m.x.maybe(0, 75, 99, 95, 95), 1);
    }

    private static void met() {
        Museum.says("with whom it is on one SPOT in one MINUTE (a, b counted), whichever way it goes");
        Museum m = new Museum();
        m.plan(0, 0, "00" + Museum.times("9.", 2) + "2.e");
        m.plan(9, 0, "10");
        Museum.due("in a and b", m.x.met(0, 20, 1, 21), 0b1000000001);
        Museum.due("in a alone: a leaves in 21", m.x.met(0, 20, 10, 21), 1);
        Museum.due("not in a", m.x.met(0, 21, 10, 22), 0);
        Museum.due("in b alone", m.x.met(11, 20, 1, 21), 0b1000000001);
        Museum.due("not in b", m.x.met(2, 19, 1, 20), 0b1000000000);
        Museum.due("b as a", m.x.met(0, 20, 0, 20), 1);
        Museum.due("b as a, on another spot", m.x.met(99, 20, 99, 20), 0);
        Museum.due("beside one it may go round", m.x.met(0, 40, 2, 44), 0);
        Museum.due("or must not", m.x.met(0, 40, 2, 42), 0b1000000001);
        Museum.says("of THE DAY");
        m.plan(9, 2, "55");
        m.x.choose(9, 2);
        Museum.due("another version", m.x.met(11, 20, 1, 21), 1);
        Museum.says("told PEOPLE (as bits)");
        Museum.due("nobody", new Museum().x.met(0, 0, 0, 0), 0);
    }

    private static void noWay() {
        Museum.says("-2: there is no way; NONE: no such ones");
        Museum m = new Museum();
        m.plan(0, 0, "00");
        Museum.due("no way", m.x.met(0, 0, 3, 2), -2);
        Museum.due("a way", m.x.met(0, 0, 3, 3), 1);
        Museum.due("no way, b as a", m.x.met(0, 5, 1, 5), -2);
        Museum.due("no such ones", m.x.met(0, 5, 1, 4), -1);
        m.town("#1090;#1121");
        Museum.due("walls round it", m.x.met(0, 0, 20, 1), -2);
        Museum.due("a wall itself", m.x.met(0, 0, 1, 1), -1);
    }

    private static void paged() {
        Museum.says("PAGED: the fewest STEPS; of like ones the lowest; how many STEPS; -2: nobody");
        Museum m = new Museum();
        Museum.due("nobody is told", m.x.paged(0, 0, 0), -2);
        Museum.due("nobody is told", m.x.paged(0, 0, 1), -2);
        m.plan(9, 0, "99");
        Museum.due("the last person", m.x.paged(0, 0, 0), 9);
        Museum.due("its steps", m.x.paged(0, 0, 1), 18);
        Museum.due("where it is", m.x.paged(99, 95, 1), 0);
        m.plan(8, 0, "98");
        Museum.due("one nearer", m.x.paged(0, 0, 0), 8);
        Museum.due("one step", m.x.paged(99, 0, 0), 9);
        m.plan(5, 0, "89");
        Museum.due("of like ones the lowest", m.x.paged(0, 0, 0), 5);
        m.plan(0, 0, "00" + Museum.times("9.", 10) + "4.e");
        Museum.due("in minute 94", m.x.paged(0, 94, 1), 0);
        Museum.due("in minute 95", m.x.paged(0, 95, 1), 1);
        Museum.says("4 ways, plain SPOTS alone");
        Museum.due("across", m.x.paged(11, 0, 1), 2);
        m.town("#0199;.0949;.9000");
        Museum.due("round a wall there is no way", m.x.paged(90, 0, 0), -2);
        m = new Museum();
        m.plan(3, 0, "00");
        // a lane that winds through all of the town
        m.town("#0181;#1393;#0585;#1797;c0989;.0000");
        Museum.due("a long way", m.x.paged(80, 0, 1), 4 * (9 + 2));
        Museum.due("who", m.x.paged(80, 0, 0), 3);
    }

    private static void pagedOffItsSpot() {
        Museum.says("plain SPOTS alone, but where it is");
        Museum m = new Museum();
        m.plan(0, 0, "44");
        for (String sign : new String[] {"#", "c"}) {
            m.town(sign + "4444");
            int[] spots = {45, 54, 34, 43, 55, 53, 35, 33, 46, 64, 24, 42};
            int[] far = {1, 1, 1, 1, 2, 2, 2, 2, 2, 2, 2, 2};
            for (int i = 0; i < spots.length; i++) {
                Museum.due("off " + sign + " to " + spots[i], m.x.paged(spots[i], 0, 1), far[i]);
            }
        }
        m.town("#4444;#4545;#4343;#3434;.5454");
        Museum.due("one way out", m.x.paged(55, 0, 1), 2);
        Museum.due("round to the other side", m.x.paged(33, 0, 1), 6);
        m.town("#4444;#4545;#4343;#3434;#5454");
        Museum.due("no way out", m.x.paged(55, 0, 1), -2);
        Museum.due("no way out", m.x.paged(55, 0, 0), -2);
        m.plan(3, 0, "99");
        Museum.due("another one comes", m.x.paged(55, 0, 0), 3);
        Museum.due("by its steps", m.x.paged(55, 0, 1), 8);
    }

    private static void pagedRefused() {
        Museum.says("a SPOT (0 to 99) in a MINUTE; NONE: no such ones, it is not plain (ahead of nobody)");
        Museum m = new Museum();
        m.town("#0000;c9999");
        for (int round = 0; round < 2; round++) {
            int[][] refused = {{-1, 0, 0}, {100, 0, 0}, {0, 0, 0}, {99, 0, 0}, {1, -1, 0}, {1, 96, 0}, {1, 0, -1}, {1, 0, 2},
                {MOST, 0, 0}, {LEAST, 0, 0}, {1, MOST, 0}, {1, LEAST, 1}, {1, 0, MOST}, {1, 0, LEAST}};
            for (int[] c : refused) {
                Museum.due("paged(" + c[0] + ", " + c[1] + ", " + c[2] + ")", m.x.paged(c[0], c[1], c[2]), -1);
            }
            m.plan(0, 0, "55");
        }
        Museum.due("minute 95", m.x.paged(1, 95, 0), 0);
        Museum.due("spot 98", m.x.paged(98, 0, 1), 3 + 4);
    }
}
