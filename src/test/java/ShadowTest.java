/** Promises 27 (liar), 28 (falls) and 29 (argued). */
public final class ShadowTest {
    public static void main(String[] args) {
        falls();
        liars();
        Museum.end("ShadowTest");
    }

    private static void falls() {
        Museum m = new Museum();
        Museum.due("without a law it falls so always", m.x.falls(0, 0, 0, 0), 96);
        Museum.due("the first", m.x.falls(0, 0, 1, 1), 0);
        Museum.due("the last", m.x.falls(0, 0, 1, 2), 95);
        Museum.due("never", m.x.falls(0, 1, 1, 0), 0);
        Museum.due("never first", m.x.falls(0, 1, 1, 1), -2);
        Museum.due("never last", m.x.falls(0, 1, 1, 2), -2);
        m.law("a2(t>9&t<20|t=40);l5(u=1&t<15|t=40)");
        Museum.due("by sun 1", m.x.falls(2, 5, 1, 0), 6);
        Museum.due("by sun 1, the first", m.x.falls(2, 5, 1, 1), 10);
        Museum.due("by sun 1, the last", m.x.falls(2, 5, 1, 2), 40);
        Museum.due("by sun 0", m.x.falls(2, 5, 0, 0), 1);
        Museum.due("by sun 0, without length", m.x.falls(2, 0, 0, 0), 10);
        m.law("a7(1=1);l9(1=1)");
        Museum.due("the last way, the greatest length", m.x.falls(7, 9, 0, 0), 96);
        int[][] calls = {{8, 0, 0, 0}, {-1, 0, 0, 0}, {0, 10, 0, 0}, {0, -1, 0, 0}, {0, 0, 2, 0}, {0, 0, -1, 0}, {0, 0, 0, 3}, {0, 0, 0, -1}};
        for (int[] c : calls) {
            Museum.due("falls(" + c[0] + ", " + c[1] + ", " + c[2] + ", " + c[3] + ")", m.x.falls(c[0], c[1], c[2], c[3]), -1);
        }
    }

    private static void liars() {
        Museum m = new Museum();
        m.plan(0, 0, "00");
        m.law("a1(u=0&t<10);a2(u=1&t<10);a3(t=20)");
        m.reports("a5f10;a5f20;a5f30;a15f00;a0i00;a18~1f30;a18~2f30;a12~3f10");
        int[] suns = {1, 2, 0, 3, -1, 0, 3, 1};
        for (int i = 0; i < suns.length; i++) {
            Museum.due("liar(" + i + ")", m.x.liar(i), suns[i]);
        }
        Museum.due("liar(8)", m.x.liar(8), -1);
        Museum.due("liar(-1)", m.x.liar(-1), -1);
        Museum.due("argued(0)", m.x.argued(0), 4);
        Museum.due("argued(1)", m.x.argued(1), 3);
        Museum.due("argued(2)", m.x.argued(2), -1);
        Museum.due("argued(-1)", m.x.argued(-1), -1);
        m.x.gives(0);
        Museum.due("none", m.x.argued(0), 0);
    }
}
