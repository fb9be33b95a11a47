/** Promises 1 (a new object) and 2 (feed). */
public final class TapeTest {
    public static void main(String[] args) {
        newObject();
        feed();
        Museum.end("TapeTest");
    }

    private static void newObject() {
        DayMuseum x = new DayMuseum();
        for (int spot = 0; spot < 100; spot++) {
            Museum.due("new count(100 + " + spot + ")", x.count(100 + spot), 0);
        }
        for (int what = 0; what < 7; what++) {
            Museum.due("new count(" + what + ")", x.count(what), 0);
        }
        for (int p = 0; p < 10; p++) {
            Museum.due("new at(" + p + ", 0)", x.at(p, 0), -1);
        }
        Museum.due("new best(3)", x.best(3), 2);
        Museum.due("new blind(0)", x.blind(0), 96);
        Museum.due("new shadow", x.shadow(0, 1, 1), 0);
        Museum.due("NONE", DayMuseum.NONE, -1);
    }

    private static void feed() {
        Museum m = new Museum();
        for (int i = 1; i <= 13; i++) {
            Museum.due("feed " + i, m.x.feed(i, 0, -1, Integer.MIN_VALUE, 7), 20 * i);
        }
        Museum.due("feed 14", m.x.feed(1, 2, 3, 4, 5), -1);
        Museum.due("count(3)", m.x.count(3), 260);
        // the highest byte of each int comes first: ".0000;#1111" is one wall
        m = new Museum();
        m.x.feed(0x2e303030, 0x303b2331, 0x31313120, 0x20202020, 0x20202020);
        Museum.due("town(11)", m.x.town(11), 1);
        Museum.due("count(111)", m.x.count(111), 1);
        Museum.due("count(3)", m.x.count(3), 0);
        // bytes above 127 stay bytes
        m.plan(0, 0, "00");
        m.x.feed(0xff000000, 0, 0, 0, 0);
        Museum.due("check", m.x.check(0, 1), 0);
        m.x.feed(0, 0, 0, 0, 0);
        Museum.due("check", m.x.check(0, 20), -1);
        Museum.due("emptied", m.x.count(3), 0);
    }
}
