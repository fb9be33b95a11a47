/** Edges of THINGS: promises 37 (thing), 38 (carry) and 39 (where). */
public final class ThingsEdgeTest {
    private static final int MOST = Integer.MAX_VALUE;
    private static final int LEAST = Integer.MIN_VALUE;

    public static void main(String[] args) {
        thing();
        carriedFromTo();
        oneMinute();
        wholeDay();
        notOnItsSpot();
        inPlace();
        ofTheDay();
        carryRefused();
        whereRefused();
        Museum.end("ThingsEdgeTest");
    }

    private static void thing() {
        Museum.says("THINGS 0 to 5: a SPOT at which it lies in MINUTE 0; false: no such ones");
        Museum m = new Museum();
        int[][] refused = {{-1, 0}, {6, 0}, {0, -1}, {0, 100}, {MOST, 0}, {LEAST, 0}, {0, MOST}, {0, LEAST}};
        for (int[] c : refused) {
            Museum.due("thing(" + c[0] + ", " + c[1] + ")", m.x.thing(c[0], c[1]), false);
        }
        Museum.due("none is told", m.x.count(6), 0);
        int bits = 0;
        for (int i = 0; i < 6; i++) {
            Museum.due("not told", m.x.where(i, 0), -1);
            Museum.due("thing(" + i + ", " + i + ")", m.x.thing(i, i), true);
            bits |= 1 << i;
            Museum.due("told", m.x.count(6), bits);
            Museum.due("where", m.x.where(i, 0), i);
        }
        Museum.due("spot 0", m.x.thing(5, 0), true);
        Museum.due("where", m.x.where(5, 95), 0);
        Museum.due("spot 99", m.x.thing(5, 99), true);
        Museum.due("where", m.x.where(5, 95), 99);
        for (int[] c : refused) {
            m.x.thing(c[0], c[1]);
        }
        Museum.due("a refused call changes nothing", m.x.where(0, 0), 0);
        Museum.due("six are told", m.x.count(6), 63);
    }

    private static void carriedFromTo() {
        Museum.says("it is with it till the last (both counted), and lies behind that where it was then");
        Museum m = new Museum();
        m.plan(0, 0, "009e");
        m.x.thing(0, 3);
        Museum.due("carry", m.x.carry(0, 0, 3, 7), true);
        int[] spots = {3, 3, 3, 3, 4, 5, 6, 7, 7, 7};
        for (int t = 0; t < spots.length; t++) {
            Museum.due("in " + t, m.x.where(0, t), spots[t]);
        }
        Museum.due("in 95", m.x.where(0, 95), 7);
        m.x.carry(0, 0, 3, 8);
        Museum.due("one minute more", m.x.where(0, 8), 8);
        Museum.due("and behind that", m.x.where(0, 9), 8);
    }

    private static void oneMinute() {
        Museum.says("from a MINUTE to another one (not ahead of it)");
        Museum m = new Museum();
        m.plan(0, 0, "009e");
        m.x.thing(0, 3);
        Museum.due("the same", m.x.carry(0, 0, 3, 3), true);
        Museum.due("lies where it was then", m.x.where(0, 4), 3);
        Museum.due("one ahead", m.x.carry(0, 0, 3, 2), false);
        Museum.due("one behind", m.x.carry(0, 0, 3, 4), true);
        Museum.due("is carried on", m.x.where(0, 5), 4);
        Museum.due("one ahead", m.x.carry(0, 0, 3, 2), false);
        Museum.due("stays so", m.x.where(0, 5), 4);
    }

    private static void wholeDay() {
        Museum.says("MINUTES 0 to 95");
        Museum m = new Museum();
        m.plan(0, 0, "00e" + Museum.times("9.", 10) + "3.n");
        m.x.thing(5, 0);
        Museum.due("0 to 95", m.x.carry(5, 0, 0, 95), true);
        Museum.due("in 0", m.x.where(5, 0), 0);
        Museum.due("in 1", m.x.where(5, 1), 1);
        Museum.due("in 94", m.x.where(5, 94), 1);
        Museum.due("in 95", m.x.where(5, 95), 11);
        Museum.due("0 to 94", m.x.carry(5, 0, 0, 94), true);
        Museum.due("in 95", m.x.where(5, 95), 1);
        m.x.thing(5, 11);
        Museum.due("95 to 95", m.x.carry(5, 0, 95, 95), true);
        Museum.due("in 0", m.x.where(5, 0), 11);
        Museum.due("in 95", m.x.where(5, 95), 11);
    }

    private static void notOnItsSpot() {
        Museum.says("if that PERSON is on its SPOT in the first; else it stays where it lies");
        Museum m = new Museum();
        m.plan(0, 0, "009e");
        m.x.thing(0, 3);
        for (int first : new int[] {2, 4}) {
            Museum.due("carry from " + first, m.x.carry(0, 0, first, 9), true);
            Museum.due("in " + first, m.x.where(0, first), 3);
            Museum.due("in 9", m.x.where(0, 9), 3);
        }
        m.plan(0, 0, "009n");
        m.x.carry(0, 0, 3, 9);
        Museum.due("by the plan that is now", m.x.where(0, 9), 3);
        m.plan(0, 0, "309n");
        m.x.carry(0, 0, 0, 9);
        Museum.due("by the plan that is now", m.x.where(0, 9), 93);
    }

    private static void inPlace() {
        Museum.says("(in place of what was told before); a THING at a SPOT (in place of the one before; not CARRIED)");
        Museum m = new Museum();
        m.plan(0, 0, "009e");
        m.plan(1, 0, "009n");
        m.x.thing(2, 0);
        m.x.carry(2, 0, 0, 5);
        Museum.due("by a", m.x.where(2, 5), 5);
        m.x.carry(2, 1, 0, 6);
        Museum.due("by b", m.x.where(2, 5), 50);
        Museum.due("by b", m.x.where(2, 9), 60);
        m.x.thing(2, 0);
        Museum.due("not carried", m.x.where(2, 9), 0);
        m.x.carry(2, 1, 0, 6);
        m.x.thing(3, 0);
        Museum.due("another thing is not carried", m.x.where(3, 9), 0);
        Museum.due("this one is", m.x.where(2, 9), 60);
    }

    private static void ofTheDay() {
        Museum.says("where it is in a MINUTE of THE DAY");
        Museum m = new Museum();
        m.plan(9, 0, "009e");
        m.plan(9, 1, "009n");
        m.plan(9, 2, "119n");
        m.x.thing(0, 0);
        m.x.carry(0, 9, 0, 9);
        Museum.due("version 0", m.x.where(0, 9), 9);
        m.x.choose(9, 1);
        Museum.due("version 1", m.x.where(0, 9), 90);
        m.x.choose(9, 2);
        Museum.due("version 2 is not there", m.x.where(0, 9), 0);
        m.x.choose(9, 1);
        m.town("#0595");
        Museum.due("by the town that is now", m.x.where(0, 9), 40);
    }

    private static void carryRefused() {
        Museum.says("A told THING is CARRIED by a told PERSON; false: no such ones");
        Museum m = new Museum();
        m.plan(0, 0, "009e");
        m.x.thing(0, 0);
        m.x.carry(0, 0, 0, 3);
        int[][] refused = {{-1, 0, 0, 1}, {1, 0, 0, 1}, {5, 0, 0, 1}, {6, 0, 0, 1}, {0, -1, 0, 1}, {0, 1, 0, 1}, {0, 10, 0, 1},
            {0, 0, -1, 1}, {0, 0, 96, 96}, {0, 0, 0, 96}, {0, 0, 1, 0}, {0, 0, 0, -1}, {MOST, 0, 0, 1}, {LEAST, 0, 0, 1},
            {0, MOST, 0, 1}, {0, LEAST, 0, 1}, {0, 0, LEAST, 1}, {0, 0, MOST, MOST}, {0, 0, 0, MOST}, {0, 0, 0, LEAST}};
        for (int[] c : refused) {
            Museum.due("carry(" + c[0] + ", " + c[1] + ", " + c[2] + ", " + c[3] + ")", m.x.carry(c[0], c[1], c[2], c[3]), false);
            Museum.due("is carried as before", m.x.where(0, 9), 3);
        }
        Museum.due("no other one is told", m.x.count(6), 1);
    }

    private static void whereRefused() {
        Museum.says("where: NONE: no such ones");
        Museum m = new Museum();
        m.x.thing(0, 7);
        int[][] refused = {{-1, 0}, {1, 0}, {5, 0}, {6, 0}, {0, -1}, {0, 96}, {MOST, 0}, {LEAST, 0}, {0, MOST}, {0, LEAST}};
        for (int[] c : refused) {
            Museum.due("where(" + c[0] + ", " + c[1] + ")", m.x.where(c[0], c[1]), -1);
        }
        Museum.due("minute 95", m.x.where(0, 95), 7);
    }
}
