/** Edges of THE SHADOW: promises 27 (liar), 28 (falls) and 29 (argued). */
public final class ShadowEdgeTest {
    private static final int MOST = Integer.MAX_VALUE;
    private static final int LEAST = Integer.MIN_VALUE;

    public static void main(String[] args) {
        liar();
        itsMinutes();
        noSuchReport();
        falls();
        fallsRefused();
        argued();
        Museum.end("ShadowEdgeTest");
    }

    private static void liar() {
        Museum.says("A LIAR: SUNS by which it may be (as bits; 0: a lie)");
        Museum m = new Museum();
        m.plan(0, 0, "00");
        m.law("a1(u=0);a2(u=1&t<50);a1(u=1);l3(u=0);l4(u=1&t<50);l3(u=1)");
        m.reports("a5f13;a5f24;a5f14;a5f23;a60f13;a60f24;a49f24;a50f24");
        int[] suns = {1, 2, 0, 0, 3, 0, 2, 0};
        for (int i = 0; i < suns.length; i++) {
            Museum.due("liar(" + i + ")", m.x.liar(i), suns[i]);
        }
        m.x.sun(1);
        Museum.due("by whatever sun is chosen", m.x.liar(0), 1);
        Museum.due("by whatever sun is chosen", m.x.liar(1), 2);
        m.law("a1(u=1)");
        Museum.due("by the law that is now", m.x.liar(0), 0);
    }

    private static void itsMinutes() {
        Museum.says("so by no SUN in any of its MINUTES");
        Museum m = new Museum();
        m.plan(3, 0, "00");
        m.law("l5(u=0&t=40);l5(u=1&t=44)");
        m.reports("d42~1f05;d42~2f05;d38~2f05;d46~2f05;d35~5f05;d49~5f05;d34~5f05;d50~5f05");
        int[] suns = {0, 3, 1, 2, 1, 2, 0, 0};
        for (int i = 0; i < suns.length; i++) {
            Museum.due("liar(" + i + ")", m.x.liar(i), suns[i]);
        }
        Museum.says("(those from 0 to 95)");
        m.x.gives(3);
        m.law("l5(t=0&u=0|t=95&u=1)");
        m.reports("d9~9f05;d0~9f05;d86~9f05;d95~9f05;d10~9f05;d85~9f05");
        suns = new int[] {1, 1, 2, 2, 0, 0};
        for (int i = 0; i < suns.length; i++) {
            Museum.due("liar(" + i + ")", m.x.liar(i), suns[i]);
        }
        Museum.due("argued(0)", m.x.argued(0), 2);
        Museum.due("argued(1)", m.x.argued(1), 2);
    }

    private static void noSuchReport() {
        Museum.says("a REPORT of THE SHADOW; NONE: no such REPORT");
        Museum m = new Museum();
        m.plan(0, 0, "00");
        m.plan(1, 0, "00");
        Museum.due("of none", m.x.liar(0), -1);
        m.reports("a0sb;a0ob;a0hb;a0i00;a0wb00;a0f00");
        for (int i = 0; i < 5; i++) {
            Museum.due("another report, liar(" + i + ")", m.x.liar(i), -1);
        }
        Museum.due("of the shadow", m.x.liar(5), 3);
        for (int i : new int[] {-1, 6, 40, MOST, LEAST}) {
            Museum.due("liar(" + i + ")", m.x.liar(i), -1);
        }
        m.x.strike(5);
        Museum.due("struck", m.x.liar(5), -1);
    }

    private static void falls() {
        Museum.says("falls: in how many MINUTES, the first, the last (-2: none)");
        Museum m = new Museum();
        m.law("a7(t=0|t=95);l9(t=0|t=95);a2(t=50);l4(t=50);l4(t=60);a2(t=70)");
        int[][] calls = {{7, 9, 0, 2, 0, 95}, {7, 9, 1, 2, 0, 95}, {2, 4, 0, 1, 50, 50}, {0, 4, 0, 1, 60, 60}, {2, 0, 0, 1, 70, 70},
            {0, 0, 0, 91, 1, 94}, {7, 0, 0, 0, -2, -2}, {0, 9, 1, 0, -2, -2}, {4, 2, 0, 0, -2, -2}};
        for (int[] c : calls) {
            for (int what = 0; what < 3; what++) {
                Museum.due("falls(" + c[0] + ", " + c[1] + ", " + c[2] + ", " + what + ")", m.x.falls(c[0], c[1], c[2], what), c[3 + what]);
            }
        }
        m.law("l1(u=1)");
        Museum.due("by sun 0 always", m.x.falls(0, 0, 0, 0), 96);
        Museum.due("by sun 1 never", m.x.falls(0, 0, 1, 0), 0);
        Museum.due("by sun 1 so", m.x.falls(0, 1, 1, 0), 96);
    }

    private static void fallsRefused() {
        Museum.says("by its WAY, length (0 to 9), a SUN, what 0 to 2; NONE: no such ones (ahead of -2)");
        Museum m = new Museum();
        for (int[] taken : new int[][] {{0, 0, 0, 0}, {7, 0, 0, 1}, {0, 9, 1, 2}}) {
            Museum.due("taken", m.x.falls(taken[0], taken[1], taken[2], taken[3]) != -1, true);
        }
        int[][] refused = {{-1, 0, 0, 0}, {8, 0, 0, 1}, {0, -1, 0, 2}, {0, 10, 0, 0}, {0, 0, -1, 0}, {0, 0, 2, 0}, {0, 0, 0, -1},
            {0, 0, 0, 3}, {MOST, 0, 0, 0}, {LEAST, 0, 0, 0}, {0, MOST, 0, 0}, {0, LEAST, 0, 0}, {0, 0, MOST, 0},
            {0, 0, LEAST, 0}, {0, 0, 0, MOST}, {0, 0, 0, LEAST}, {1, -10, 0, 0}, {-1, 10, 0, 0}};
        for (int[] c : refused) {
            Museum.due("falls(" + c[0] + ", " + c[1] + ", " + c[2] + ", " + c[3] + ")", m.x.falls(c[0], c[1], c[2], c[3]), -1);
        }
    }

    private static void argued() {
        Museum.says("ARGUED: how many REPORTS of THE SHADOW may be by each SUN; a SUN (0, 1); NONE: no such one");
        Museum m = new Museum();
        Museum.due("of none", m.x.argued(0), 0);
        Museum.due("of none", m.x.argued(1), 0);
        m.plan(0, 0, "00");
        m.law("a1(u=1)");
        m.reports("a0f00;a0f10;a1f10;a0i00;a0i99;a0f79");
        Museum.due("0", m.x.argued(0), 1);
        Museum.due("1", m.x.argued(1), 2);
        for (int u : new int[] {-1, 2, MOST, LEAST}) {
            Museum.due("argued(" + u + ")", m.x.argued(u), -1);
        }
        m.x.gives(0);
        m.reports(Museum.row("a0f10", ";", 33));
        m.reports(Museum.row("a0f10", ";", 7));
        Museum.due("40", m.x.argued(1), 40);
        Museum.due("none of 40", m.x.argued(0), 0);
    }
}
