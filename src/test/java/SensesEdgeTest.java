/** Edges of what is seen and heard: promises 13, 14, 40, 41 and 42, and what Terms say of it. */
public final class SensesEdgeTest {
    public static void main(String[] args) {
        far();
        eightWays();
        walls();
        ownSpot();
        apart();
        ofEachMinute();
        wrong();
        unseen();
        never();
        blind();
        nobody();
        Museum.end("SensesEdgeTest");
    }

    private static void far() {
        Museum.says("at most v SPOTS away (v asked of that PERSON)");
        for (int v = 0; v <= 10; v++) {
            Museum m = new Museum();
            m.plan(0, 0, "009e");
            m.plan(1, 0, "00");
            m.law("v" + v + "(p=1)");
            for (int t = 0; t <= 9; t++) {
                Museum.due("v " + v + ", " + t + " away", m.x.sees(1, t), t <= v ? 1 : 0);
                Museum.due("it sees by its own v", m.x.sees(0, t), t == 0 ? 2 : 0);
            }
        }
        Museum.says("the SPOT lies in one of the 8 WAYS, across too");
        Museum m = new Museum();
        m.plan(0, 0, "00");
        m.plan(1, 0, "99");
        m.law("v8(t=0);v9(t=1)");
        Museum.due("9 across with v 8", m.x.sees(0, 0), 0);
        Museum.due("9 across with v 9", m.x.sees(0, 1), 2);
    }

    private static void eightWays() {
        Museum.says("the SPOT lies in one of the 8 WAYS from it");
        Museum m = new Museum();
        m.law("v14(1=1)");
        m.plan(0, 0, "44");
        int wrong = 0;
        for (int spot = 0; spot < 100; spot++) {
            int x = spot % 10 - 4;
            int y = spot / 10 - 4;
            boolean inWay = x == 0 || y == 0 || x == y || x == -y;
            m.plan(1, 0, "" + spot % 10 + spot / 10);
            wrong += m.x.sees(0, 7) == (inWay ? 2 : 0) && m.x.sees(1, 7) == (inWay ? 1 : 0) ? 0 : 1;
        }
        Museum.due("spots seen otherwise", wrong, 0);
    }

    private static void walls() {
        Museum.says("with no wall between (what is on the SPOT is no matter)");
        int[][] ways = {{1, 0}, {1, 1}, {0, 1}, {-1, 1}, {-1, 0}, {-1, -1}, {0, -1}, {1, -1}};
        for (int[] way : ways) {
            Museum m = new Museum();
            m.plan(0, 0, "44");
            m.plan(1, 0, spot(way, 3));
            m.law("v9(1=1)");
            Museum.due("none, to " + spot(way, 3), m.x.sees(0, 0), 2);
            m.town("#" + spot(way, 1) + spot(way, 1));
            Museum.due("beside it", m.x.sees(0, 0), 0);
            m.town("#" + spot(way, 2) + spot(way, 2));
            Museum.due("beside the other one", m.x.sees(0, 0), 0);
            Museum.due("nor back", m.x.sees(1, 0), 0);
            m.town("#" + spot(way, 3) + spot(way, 3));
            Museum.due("on the spot", m.x.sees(0, 0), 2);
            m.town("#" + spot(way, 4) + spot(way, 4));
            Museum.due("behind it", m.x.sees(0, 0), 2);
            m.town("#" + spot(way, 0) + spot(way, 0));
            Museum.due("on its own spot", m.x.sees(0, 0), 2);
            m.town("#" + spot(way, -1) + spot(way, -1));
            Museum.due("on the other side", m.x.sees(0, 0), 2);
            m.town("c" + spot(way, 1) + spot(way, 2));
            Museum.due("a canal between", m.x.sees(0, 0), 2);
        }
    }

    private static String spot(int[] way, int far) {
        return "" + (4 + far * way[0]) + (4 + far * way[1]);
    }

    private static void ownSpot() {
        Museum.says("if it is on it: without a law, too; as bits, not itself");
        Museum m = new Museum();
        for (int p = 0; p < 10; p++) {
            m.plan(p, 0, "55");
        }
        for (int p = 0; p < 10; p++) {
            Museum.due("sees(" + p + ", 0)", m.x.sees(p, 0), 1023 - (1 << p));
            Museum.due("hears(" + p + ", 0)", m.x.hears(p, 0), 1023 - (1 << p));
        }
        m.town("#5555");
        Museum.due("on a wall", m.x.sees(3, 0), 1023 - 8);
    }

    private static void apart() {
        Museum.says("at most h apart (x and y together; h asked of the one that is heard)");
        Museum m = new Museum();
        m.plan(0, 0, "44");
        m.law("h5(p=1);h0(p=0)");
        int wrong = 0;
        for (int spot = 0; spot < 100; spot++) {
            int far = Math.abs(spot % 10 - 4) + Math.abs(spot / 10 - 4);
            m.plan(1, 0, "" + spot % 10 + spot / 10);
            wrong += m.x.hears(0, 3) == (far <= 5 ? 2 : 0) && m.x.hears(1, 3) == (far == 0 ? 1 : 0) ? 0 : 1;
        }
        Museum.due("spots heard otherwise", wrong, 0);
        for (int h = 0; h <= 19; h++) {
            m = new Museum();
            m.plan(0, 0, "99");
            m.plan(9, 0, "009e9n");
            m.law("h" + h + "(p=9)");
            for (int t = 0; t <= 18; t++) {
                Museum.due("h " + h + ", " + (18 - t) + " apart", m.x.hears(0, t), 18 - t <= h ? 1 << 9 : 0);
            }
        }
    }

    /** What was asked once must not be answered in another minute, or of another one. */
    private static void ofEachMinute() {
        Museum.says("in a MINUTE: by what the law says then");
        Museum m = new Museum();
        for (int p = 0; p < 4; p++) {
            m.plan(p, 0, "" + p + "0");
        }
        m.law("v9([p*3+t]%4=0);h9([p*3+t]%4=0)");
        for (int t = 0; t < 16; t++) {
            int loud = 0;
            for (int p = 0; p < 4; p++) {
                loud |= (3 * p + t) % 4 == 0 ? 1 << p : 0;
            }
            for (int p = 0; p < 4; p++) {
                Museum.due("hears(" + p + ", " + t + ")", m.x.hears(p, t), loud & ~(1 << p));
                Museum.due("sees(" + p + ", " + t + ")", m.x.sees(p, t), (loud >> p & 1) == 1 ? 15 - (1 << p) : 0);
            }
        }
        m.law("v9(1=2);h9(1=1)");
        Museum.due("by the law that is now: sees", m.x.sees(0, 0), 0);
        Museum.due("by the law that is now: hears", m.x.hears(0, 1), 14);
        m.plan(1, 0, "00");
        Museum.due("by the plan that is now", m.x.sees(0, 0), 2);
        m.plan(1, 1, "99");
        m.x.choose(1, 1);
        Museum.due("by the version that is chosen", m.x.sees(0, 0), 0);
    }

    private static void wrong() {
        Museum.says("of a told PERSON in a MINUTE; NONE: no such ones");
        Museum m = new Museum();
        m.plan(0, 0, "00");
        m.plan(9, 0, "00");
        int[] persons = {-1, 1, 8, 10, Integer.MAX_VALUE, Integer.MIN_VALUE};
        int[] minutes = {-1, 96, Integer.MAX_VALUE, Integer.MIN_VALUE};
        for (int p : persons) {
            Museum.due("sees(" + p + ", 0)", m.x.sees(p, 0), -1);
            Museum.due("hears(" + p + ", 0)", m.x.hears(p, 0), -1);
        }
        for (int t : minutes) {
            Museum.due("sees(0, " + t + ")", m.x.sees(0, t), -1);
            Museum.due("hears(9, " + t + ")", m.x.hears(9, t), -1);
        }
        Museum.due("minute 95", m.x.sees(0, 95), 1 << 9);
        Museum.due("minute 95", m.x.hears(9, 95), 1);
    }

    private static void unseen() {
        Museum.says("UNSEEN: SPOTS (no walls) that no told PERSON SEES: how many; the lowest (-2: none)");
        Museum m = new Museum();
        m.plan(0, 0, "00");
        m.town("#2299;c9000");
        Museum.due("canals, and plain spots beside walls", m.x.unseen(0, 0), 100 - 64 - 1);
        Museum.due("the lowest", m.x.unseen(0, 1), 1);
        m.town("#1099;.9999;.0000");
        Museum.due("one column is left, and a corner", m.x.unseen(0, 0), 9 + 1);
        Museum.due("the lowest", m.x.unseen(0, 1), 10);
        m.law("v9(1=1)");
        Museum.due("the corner", m.x.unseen(0, 0), 1);
        Museum.due("the corner", m.x.unseen(0, 1), 99);
        m.town("#1099");
        Museum.due("none", m.x.unseen(0, 0), 0);
        Museum.due("none", m.x.unseen(0, 1), -2);
        Museum.due("none in minute 95", m.x.unseen(95, 1), -2);
        Museum.says("NONE: no such ones");
        for (int t : new int[] {-1, 96, Integer.MAX_VALUE, Integer.MIN_VALUE}) {
            Museum.due("unseen(" + t + ", 0)", m.x.unseen(t, 0), -1);
            Museum.due("unseen(" + t + ", 1)", m.x.unseen(t, 1), -1);
        }
        for (int what : new int[] {-1, 2, Integer.MAX_VALUE, Integer.MIN_VALUE}) {
            Museum.due("unseen(0, " + what + ")", m.x.unseen(0, what), -1);
        }
    }

    private static void never() {
        Museum.says("NEVER: those that are so in all MINUTES from one to another one (not ahead of it)");
        Museum m = new Museum();
        m.plan(0, 0, "009e");
        Museum.due("one minute", m.x.never(4, 4, 0), 99);
        Museum.due("two", m.x.never(4, 5, 0), 98);
        Museum.due("the first counts", m.x.never(0, 9, 1), 10);
        Museum.due("the last counts", m.x.never(0, 9, 0), 90);
        Museum.due("one less at the end", m.x.never(0, 8, 1), 9);
        Museum.due("one less at the start", m.x.never(1, 9, 1), 0);
        Museum.due("the whole day", m.x.never(0, 95, 0), 90);
        Museum.due("the last minute", m.x.never(95, 95, 0), 99);
        m.town("#0199;c0000");
        Museum.due("a canal it stands on", m.x.never(0, 9, 1), -2);
        Museum.due("none", m.x.never(0, 9, 0), 0);
        Museum.due("none but the last", m.x.never(0, 8, 1), 9);
        Museum.says("NONE: no such ones");
        int[][] refused = {{5, 4}, {-1, 4}, {0, 96}, {96, 96}, {-1, -1}, {0, -1}, {Integer.MIN_VALUE, Integer.MAX_VALUE},
            {0, Integer.MAX_VALUE}, {Integer.MIN_VALUE, 0}, {95, 0}};
        for (int[] c : refused) {
            Museum.due("never(" + c[0] + ", " + c[1] + ", 0)", m.x.never(c[0], c[1], 0), -1);
            Museum.due("never(" + c[0] + ", " + c[1] + ", 1)", m.x.never(c[0], c[1], 1), -1);
        }
        for (int what : new int[] {-1, 2, Integer.MAX_VALUE, Integer.MIN_VALUE}) {
            Museum.due("never(0, 1, " + what + ")", m.x.never(0, 1, what), -1);
        }
    }

    private static void blind() {
        Museum.says("BLIND: of a SPOT the longest stretch of MINUTES on end in which nobody SEES it");
        Museum m = new Museum();
        m.plan(0, 0, "01s9.8.n7.s9.9.n");
        // on (0, 0) in 1 to 18 and 27 to 45: not in 0, 19 to 26, 46 to 95
        Museum.due("the longest is the last", m.x.blind(0), 50);
        Museum.due("of the other one the longest is in the middle", m.x.blind(10), 19);
        m.plan(0, 0, "01" + Museum.times("9.", 5) + "s9.8.n");
        Museum.due("the longest is the first", m.x.blind(0), 46);
        Museum.due("of the other one", m.x.blind(10), 18);
        Museum.says("always seen, never seen");
        m.plan(0, 0, "00");
        Museum.due("always", m.x.blind(0), 0);
        Museum.due("never", m.x.blind(99), 96);
        m.plan(0, 0, "00n");
        Museum.due("in minute 0 alone", m.x.blind(0), 95);
        Museum.due("in all but minute 0", m.x.blind(10), 1);
        m.plan(0, 0, "00" + Museum.times("9.", 10) + "4.n");
        Museum.due("in minute 95 alone", m.x.blind(10), 95);
        Museum.due("in all but minute 95", m.x.blind(0), 1);
        Museum.says("SPOT (0 to 99); NONE: no such one, a wall");
        m.town("#0000;c9999");
        Museum.due("a wall, though one stands on it", m.x.blind(0), -1);
        Museum.due("a canal", m.x.blind(99), 96);
        for (int spot : new int[] {-1, 100, Integer.MAX_VALUE, Integer.MIN_VALUE}) {
            Museum.due("blind(" + spot + ")", m.x.blind(spot), -1);
        }
    }

    private static void nobody() {
        Museum.says("nobody is told");
        Museum m = new Museum();
        Museum.due("unseen", m.x.unseen(95, 0), 100);
        Museum.due("the lowest", m.x.unseen(95, 1), 0);
        Museum.due("never", m.x.never(0, 95, 0), 100);
        Museum.due("blind(0)", m.x.blind(0), 96);
        Museum.due("blind(99)", m.x.blind(99), 96);
    }
}
