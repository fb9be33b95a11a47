/** Promise 3 (town), and what count tells of spots. */
public final class TownTest {
    public static void main(String[] args) {
        ordinary();
        faults();
        refused();
        Museum.end("TownTest");
    }

    private static void ordinary() {
        Museum m = new Museum();
        Museum.due("a wall of one spot", m.town("#3434"), 1);
        Museum.due("x 3, y 4", m.x.count(143), 1);
        Museum.due("x 4, y 3", m.x.count(134), 0);
        Museum.due("corners in any order", m.town("c5214"), 5 * 3);
        Museum.due("its corner", m.x.count(121), 2);
        Museum.due("its other corner", m.x.count(145), 2);
        Museum.due("beside it", m.x.count(146), 0);
        Museum.due("the upper corner first", new Museum().town("c0900"), 10);
        Museum.due("the upper corner first", new Museum().town("c0703"), 5);
        Museum.due("the right corner first", new Museum().town("c7131"), 5);
        Museum.due("the town before is gone", m.x.count(143), 2);
        Museum.due("line by line", m.town("#0099;.1188;c4455"), 100 - 64 + 4);
        Museum.due("border", m.x.count(190), 1);
        Museum.due("court", m.x.count(111), 0);
        Museum.due("pond", m.x.count(145), 2);
        Museum.due("in place of all before", m.town(".0000"), 0);
        Museum.due("the border is gone", m.x.count(190), 0);
        Museum.due("26 lines", m.town(Museum.row("#0000", ";", 26)), 1);
        Museum.due("of 27 bytes the first 5", feedAndRead(m), 1);
        Museum.due("all of the tape is gone", m.x.count(3), 0);
    }

    private static int feedAndRead(Museum m) {
        m.feed("#0000;c1111;c2222");
        return m.x.town(5);
    }

    private static void faults() {
        Museum m = new Museum();
        m.town("#0000;#9999");
        Museum.due("a wrong sign", m.town("w0000"), -1000);
        Museum.due("a blank", m.town(" #0000"), -1000);
        Museum.due("no digit", m.town("#0a00"), -1002);
        Museum.due("the end too early", m.town("#000"), -1004);
        Museum.due("the end behind a ;", m.town("#0000;"), -1006);
        Museum.due("a fifth digit", m.town("#00000"), -1005);
        Museum.due("two ;", m.town("#0000;;#1111"), -1006);
        Museum.due("a second line's sign", m.town("#0000;1111"), -1006);
        String full = Museum.row("#0000", ";", 26);
        Museum.due("27 lines", m.town(full + ";c"), -4156);
        Museum.due("26 lines and what can't stand", m.town(full + ";x"), -1156);
        Museum.due("26 lines and the end", m.town(full + ";"), -1156);
        Museum.due("the first from the left", m.town("#0000;c00x0;x0000"), -1009);
        Museum.due("a byte above 127", feedHigh(m), -1001);
        Museum.due("the town before stays", m.x.count(100), 1);
        Museum.due("the town before stays", m.x.count(199), 1);
        Museum.due("faults empty the tape", m.x.count(3), 0);
    }

    private static int feedHigh(Museum m) {
        m.feed('#', 0xb0, '0', '0', '0');
        return m.x.town(5);
    }

    private static void refused() {
        Museum m = new Museum();
        Museum.due("an empty tape", m.x.town(1), -1);
        m.feed("#0000");
        Museum.due("0 bytes", m.x.town(0), -1);
        Museum.due("fewer than none", m.x.town(-5), -1);
        Museum.due("the least int", m.x.town(Integer.MIN_VALUE), -1);
        Museum.due("more than there are", m.x.town(21), -1);
        Museum.due("the tape stays", m.x.count(3), 20);
        Museum.due("and can be read", m.x.town(5), 1);
        m.feed(Museum.row("#0000", ";", 30));
        Museum.due("161 bytes", m.x.town(161), -1);
        Museum.due("the tape stays", m.x.count(3), 180);
        Museum.due("160 bytes", m.x.town(160), -4156);
        for (int what : new int[] {99, 200, 7, 10, 49, 50, -1, Integer.MIN_VALUE, Integer.MAX_VALUE}) {
            Museum.due("count(" + what + ")", m.x.count(what), -1);
        }
    }
}
