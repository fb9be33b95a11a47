/** Promises 37 (thing), 38 (carry) and 39 (where). */
public final class ThingsTest {
    public static void main(String[] args) {
        lying();
        carried();
        wrong();
        Museum.end("ThingsTest");
    }

    private static void lying() {
        Museum m = new Museum();
        Museum.due("where ahead of it", m.x.where(0, 0), -1);
        Museum.due("carry ahead of it", m.x.carry(0, 0, 0, 0), false);
        Museum.due("thing(5, 99)", m.x.thing(5, 99), true);
        Museum.due("thing(0, 0)", m.x.thing(0, 0), true);
        Museum.due("count(6)", m.x.count(6), 0b100001);
        Museum.due("where", m.x.where(5, 0), 99);
        Museum.due("where at last", m.x.where(5, 95), 99);
        Museum.due("another spot in its place", m.x.thing(5, 12), true);
        Museum.due("where", m.x.where(5, 0), 12);
        m.town("#0099");
        Museum.due("on a wall, too", m.x.thing(1, 44), true);
        Museum.due("where", m.x.where(1, 3), 44);
    }

    private static void carried() {
        Museum m = new Museum();
        m.plan(2, 0, "009e");
        m.plan(2, 1, "119n");
        m.x.thing(3, 2);
        Museum.due("carry", m.x.carry(3, 2, 2, 5), true);
        int[] spots = {2, 2, 2, 3, 4, 5, 5, 5};
        for (int t = 0; t < spots.length; t++) {
            Museum.due("where in " + t, m.x.where(3, t), spots[t]);
        }
        Museum.due("at last", m.x.where(3, 95), 5);
        Museum.due("in place of what was told before", m.x.carry(3, 2, 3, 5), true);
        Museum.due("the person is not there in 3", m.x.where(3, 4), 2);
        Museum.due("for one minute", m.x.carry(3, 2, 2, 2), true);
        Museum.due("it lies where it was", m.x.where(3, 9), 2);
        m.x.carry(3, 2, 2, 95);
        Museum.due("to the end", m.x.where(3, 95), 9);
        m.x.choose(2, 1);
        Museum.due("by the day that is chosen", m.x.where(3, 95), 2);
        m.x.choose(2, 0);
        Museum.due("told again it is not carried", m.x.thing(3, 2), true);
        Museum.due("it lies", m.x.where(3, 95), 2);
        m.x.thing(3, 0);
        m.x.carry(3, 2, 0, 95);
        Museum.due("from minute 0", m.x.where(3, 0), 0);
        Museum.due("from minute 0", m.x.where(3, 1), 1);
    }

    private static void wrong() {
        Museum m = new Museum();
        Museum.due("thing 6", m.x.thing(6, 0), false);
        Museum.due("thing -1", m.x.thing(-1, 0), false);
        Museum.due("spot 100", m.x.thing(0, 100), false);
        Museum.due("spot -1", m.x.thing(0, -1), false);
        Museum.due("none is told", m.x.count(6), 0);
        m.x.thing(0, 0);
        m.plan(0, 0, "00e");
        int[][] calls = {{0, 1, 0, 1}, {0, 10, 0, 1}, {0, -1, 0, 1}, {1, 0, 0, 1}, {6, 0, 0, 1}, {-1, 0, 0, 1},
            {0, 0, 1, 0}, {0, 0, -1, 1}, {0, 0, 0, 96}, {0, 0, 96, 96}};
        for (int[] c : calls) {
            Museum.due("carry(" + c[0] + ", " + c[1] + ", " + c[2] + ", " + c[3] + ")", m.x.carry(c[0], c[1], c[2], c[3]), false);
        }
        Museum.due("it lies still", m.x.where(0, 1), 0);
        Museum.due("minute 96", m.x.where(0, 96), -1);
        Museum.due("minute -1", m.x.where(0, -1), -1);
        Museum.due("thing 1", m.x.where(1, 0), -1);
        Museum.due("thing 6", m.x.where(6, 0), -1);
        Museum.due("thing -1", m.x.where(-1, 0), -1);
    }
}
