/** Promises 13 (sees), 14 (hears), 40 (unseen), 41 (never) and 42 (blind). */
public final class SensesTest {
    public static void main(String[] args) {
        eightWays();
        walls();
        hearing();
        wrong();
        unseen();
        never();
        blind();
        Museum.end("SensesTest");
    }

    private static void eightWays() {
        Museum m = new Museum();
        m.plan(0, 0, "44");
        String[] others = {"64", "66", "46", "26", "24", "22", "42", "62", "65"};
        for (int p = 1; p < 10; p++) {
            m.plan(p, 0, others[p - 1]);
        }
        Museum.due("without a law one sees the own spot alone", m.x.sees(0, 0), 0);
        m.law("v2(1=1)");
        Museum.due("all but the one beside the ways", m.x.sees(0, 0), 0b0111111110);
        m.law("v1(1=1)");
        Museum.due("too far", m.x.sees(0, 0), 0);
        m.plan(9, 0, "44");
        Museum.due("on the same spot", m.x.sees(0, 0), 1 << 9);
        m.law("v0(1=1)");
        Museum.due("with v 0, too", m.x.sees(0, 95), 1 << 9);
    }

    private static void walls() {
        Museum m = new Museum();
        m.plan(0, 0, "00");
        m.plan(1, 0, "30");
        m.plan(2, 0, "33");
        m.plan(3, 0, "01");
        m.law("v9(1=1)");
        Museum.due("nothing between", m.x.sees(0, 0), 0b1110);
        m.town("#1010;c2222");
        Museum.due("a wall between; a canal is no matter", m.x.sees(0, 0), 0b1100);
        Museum.due("nor back", m.x.sees(1, 0) & 1, 0);
        m.town("#3030;#3333");
        Museum.due("what is on the spot is no matter", m.x.sees(0, 0), 0b1110);
        Museum.due("out of a wall", m.x.sees(1, 0), 0b0101);
        m.town("#0000;#0202");
        Museum.due("the own wall is not between", m.x.sees(0, 0), 0b1110);
    }

    private static void hearing() {
        Museum m = new Museum();
        m.plan(0, 0, "00");
        m.plan(1, 0, "21e");
        m.plan(2, 0, "00");
        m.law("h3(p=1);h0(1=1)");
        Museum.due("x and y together", m.x.hears(0, 0), 0b110);
        Museum.due("too far", m.x.hears(0, 1), 0b100);
        Museum.due("h of the one that is heard", m.x.hears(1, 0), 0);
        m.town("#1010;#0101;#1111");
        Museum.due("no wall keeps a voice", m.x.hears(0, 0), 0b110);
    }

    private static void wrong() {
        Museum m = new Museum();
        m.plan(1, 0, "00");
        int[][] calls = {{0, 0}, {1, 96}, {1, -1}, {10, 0}, {-1, 0}, {2, 0}};
        for (int[] call : calls) {
            Museum.due("sees(" + call[0] + ", " + call[1] + ")", m.x.sees(call[0], call[1]), -1);
            Museum.due("hears(" + call[0] + ", " + call[1] + ")", m.x.hears(call[0], call[1]), -1);
        }
        Museum.due("sees(1, 95)", m.x.sees(1, 95), 0);
        Museum.due("hears(1, 95)", m.x.hears(1, 95), 0);
    }

    private static void unseen() {
        Museum m = new Museum();
        Museum.due("nobody is told", m.x.unseen(0, 0), 100);
        Museum.due("nobody is told", m.x.unseen(0, 1), 0);
        m.plan(0, 0, "00e");
        Museum.due("one sees its spot", m.x.unseen(0, 0), 99);
        Museum.due("the lowest", m.x.unseen(0, 1), 1);
        Museum.due("a minute later", m.x.unseen(1, 1), 0);
        m.law("v2(1=1)");
        Museum.due("its spot and two in three ways", m.x.unseen(0, 0), 93);
        Museum.due("the lowest", m.x.unseen(0, 1), 3);
        m.town("#1111;#2020;c0404;#9999");
        Museum.due("walls are no such spots, canals are", m.x.unseen(0, 0), 97 - 4);
        m.plan(1, 0, "30");
        Museum.due("of all that see", m.x.unseen(0, 1), 6);
        Museum.due("minute 96", m.x.unseen(96, 0), -1);
        Museum.due("minute -1", m.x.unseen(-1, 0), -1);
        Museum.due("what 2", m.x.unseen(0, 2), -1);
        Museum.due("what -1", m.x.unseen(0, -1), -1);
        m.town("#0099");
        Museum.due("walls alone", m.x.unseen(0, 0), 0);
        Museum.due("walls alone", m.x.unseen(0, 1), -2);
    }

    private static void never() {
        Museum m = new Museum();
        m.plan(0, 0, "003e");
        Museum.due("one minute", m.x.never(0, 0, 0), 99);
        Museum.due("four minutes", m.x.never(0, 3, 0), 96);
        Museum.due("four minutes, the lowest", m.x.never(0, 3, 1), 4);
        Museum.due("behind", m.x.never(2, 95, 0), 98);
        Museum.due("behind, the lowest", m.x.never(2, 95, 1), 0);
        Museum.due("ahead of it", m.x.never(3, 2, 0), -1);
        Museum.due("minute 96", m.x.never(0, 96, 0), -1);
        Museum.due("minute -1", m.x.never(-1, 0, 0), -1);
        Museum.due("what 2", m.x.never(0, 0, 2), -1);
        Museum.due("what -1", m.x.never(0, 0, -1), -1);
        m.town("#0499;#4093;c0000");
        Museum.due("all is seen or a wall", m.x.never(0, 3, 0), 16 - 4);
        m.town("#0199;#4090");
        Museum.due("walls and what is walked over", m.x.never(0, 3, 0), 0);
        Museum.due("none", m.x.never(0, 3, 1), -2);
        Museum.due("one minute less", m.x.never(0, 2, 1), 3);
    }

    private static void blind() {
        Museum m = new Museum();
        Museum.due("nobody is told", m.x.blind(99), 96);
        m.plan(0, 0, "00ee5.w9.e");
        Museum.due("seen from 2 to 7 and from 18", m.x.blind(2), 10);
        Museum.due("seen in 0", m.x.blind(0), 95);
        Museum.due("seen at the end", m.x.blind(1), 96 - 18);
        Museum.due("seen never", m.x.blind(50), 96);
        m.law("v9(t>9);v1(t=5)");
        Museum.due("seen from 10", m.x.blind(9), 10);
        Museum.due("seen in 5 and from 10", m.x.blind(3), 5);
        Museum.due("the town's edge", m.x.blind(100), -1);
        Museum.due("the town's edge", m.x.blind(-1), -1);
        m.town("#9090;c8080");
        Museum.due("a wall", m.x.blind(9), -1);
        Museum.due("a canal", m.x.blind(8), 10);
        m.law("v9(1=1)");
        Museum.due("always seen", m.x.blind(8), 0);
    }
}
