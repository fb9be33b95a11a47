/** Edges of REPORTS: promises 6, 7, 8, 11, 16 and 17, and what Terms say of them. */
public final class ReportsEdgeTest {
    public static void main(String[] args) {
        bytes();
        forty();
        witness();
        minute();
        slip();
        letters();
        others();
        spots();
        shadows();
        lines();
        theEnd();
        noneComes();
        report();
        strike();
        gives();
        eachHolds();
        slips();
        edgesOfTheDay();
        told();
        Museum.end("ReportsEdgeTest");
    }

    /** a, b, j are told. */
    private static Museum people() {
        Museum m = new Museum();
        m.plan(0, 0, "00");
        m.plan(1, 0, "30");
        m.plan(9, 0, "99");
        return m;
    }

    private static void taken(String text) {
        Museum.due(text, people().reports(text), 1);
    }

    private static void fault(String text, int want) {
        Museum m = people();
        Museum.due(text, m.reports(text), want);
        Museum.due("reports", m.x.count(1), 0);
        Museum.due("the tape", m.x.count(3), 0);
    }

    /** Reports of i in minute 0, 1, .. by a and b in turn. */
    private static void fill(Museum m, int from, int to) {
        for (int i = from; i < to; i++) {
            Museum.due("report " + i, m.reports("ab".charAt(i % 2) + "" + i + "i00"), i + 1);
        }
    }

    private static void bytes() {
        Museum.says("a TEXT of at most 200 bytes; the first n bytes of the tape (1 to 200)");
        Museum m = people();
        String text = Museum.times("a0sb;", 39) + "a00sb";
        m.feed(text + ";");
        Museum.due("0", m.x.reports(0), -1);
        Museum.due("-1", m.x.reports(-1), -1);
        Museum.due("201", m.x.reports(201), -1);
        Museum.due("the tape stays", m.x.count(3), 220);
        Museum.due("none comes", m.x.count(1), 0);
        Museum.due("200", m.x.reports(200), 40);
        Museum.due("the tape is empty", m.x.count(3), 0);
        m = people();
        m.feed("a");
        Museum.due("1 is taken, though for a fault", m.x.reports(1), -1001);
        Museum.says("NONE: it has not so many (the tape stays)");
        m.feed("a0sb;a0sb;a0sb;a00sb");
        Museum.due("21 of 20", m.x.reports(21), -1);
        Museum.due("20 of 20", m.x.reports(20), 4);
    }

    private static void forty() {
        Museum.says("REPORTS (0 on; 40 at most)");
        Museum m = people();
        fill(m, 0, 40);
        Museum.says("4 a 41st REPORT, at its letter (if that can stand there); 7 a PERSON that is not told (behind 4)");
        Museum.due("a 41st", m.reports("a0sb"), -4000);
        Museum.due("of one that is not told", m.reports("c0sb"), -4000);
        Museum.due("faulty behind its letter", m.reports("ax"), -4000);
        Museum.due("its letter alone", m.reports("j"), -4000);
        Museum.due("no letter", m.reports("k0sb"), -1000);
        Museum.due("no letter", m.reports("`0sb"), -1000);
        Museum.due("40 are there", m.x.count(1), 40);
        for (int i = 0; i < 40; i += 13) {
            Museum.due("as they were", m.x.report(i, 1), i);
        }
        Museum.due("one is struck", m.x.strike(39), true);
        Museum.due("a 41st in the second line", m.reports("a0sb;b0sa"), -4005);
        Museum.due("a 41st in the second line that is the end", m.reports("a0sb;"), -1005);
        Museum.due("a fault in the 40th comes first", m.reports("a0sx;b0sa"), -1003);
        Museum.due("none came", m.x.count(1), 39);
        Museum.due("a 40th", m.reports("b95wj99"), 40);
        Museum.due("is the last", m.x.report(39, 5), 99);
    }

    private static void witness() {
        Museum.says("the WITNESS (a letter a to j)");
        taken("a0sb");
        taken("j0sb");
        for (char sign : "`kAJ0 ;~\0\u00ff".toCharArray()) {
            fault(sign + "0sb", -1000);
        }
        Museum.says("7 a PERSON that is not told, at its letter");
        for (char letter = 'c'; letter <= 'i'; letter++) {
            fault(letter + "0sb", -7000);
            fault(letter + "", -7000);
            fault("a0s" + letter, -7003);
        }
    }

    private static void minute() {
        Museum.says("a MINUTE (a number of one or two digits)");
        String[] digits = {"0", "9", "00", "09", "10", "94", "95"};
        for (String minute : digits) {
            Museum m = people();
            Museum.due(minute, m.reports("a" + minute + "sb"), 1);
            Museum.due("is told", m.x.report(0, 1), Integer.parseInt(minute));
        }
        fault("asb", -1001);
        fault("a/sb", -1001);
        fault("a:sb", -1001);
        fault("a-1sb", -1001);
        fault("a1/sb", -1002);
        fault("a1:sb", -1002);
        fault("a000sb", -1003);
        fault("a950sb", -1003);
        Museum.says("2 a MINUTE above 95, at its first digit (asked when its digits end, behind two at the latest)");
        for (String above : new String[] {"96", "97", "98", "99"}) {
            fault("a" + above + "sb", -2001);
        }
        fault("a96", -2001);
        fault("a96x", -2001);
        fault("a960", -2001);
        fault("a9", -1002);
        fault("a9x", -1002);
        fault("b0sa;a96sb", -2006);
    }

    private static void slip() {
        Museum.says("perhaps ~ (126) and a digit (the SLIP; else 0)");
        for (int slip = 0; slip < 10; slip++) {
            Museum m = people();
            Museum.due("~" + slip, m.reports("a50~" + slip + "sb"), 1);
            Museum.due("is told", m.x.report(0, 2), slip);
        }
        Museum m = people();
        Museum.due("none", m.reports("a50~9sb;a50sb"), 2);
        Museum.due("is 0", m.x.report(1, 2), 0);
        fault("a5~sb", -1003);
        fault("a5~", -1003);
        fault("a5~/sb", -1003);
        fault("a5~:sb", -1003);
        fault("a5~~1sb", -1003);
        fault("a5~10sb", -1004);
        fault("a5~1~1sb", -1004);
        fault("a5}1sb", -1002);
        fault("a5\u007f1sb", -1002);
    }

    private static void letters() {
        Museum.says("one of then: s, o, h, i, w, f");
        for (String telling : new String[] {"sb", "ob", "hb", "i00", "wb00", "f00"}) {
            Museum m = people();
            Museum.due("a5" + telling, m.reports("a5" + telling), 1);
            Museum.due("its letter", m.x.report(0, 3), telling.charAt(0));
        }
        for (char sign : "rtnpgjvxekSOHIWF; /\0\u00ff".toCharArray()) {
            fault("a5" + sign + "b", -1002);
            fault("a5~1" + sign + "b", -1004);
        }
        fault("a5", -1002);
        fault("a5;", -1002);
    }

    private static void others() {
        Museum.says("s and a letter, o and a letter, h and a letter, w and a letter and two digits");
        for (char telling : "sohw".toCharArray()) {
            String behind = telling == 'w' ? "00" : "";
            taken("a5" + telling + "b" + behind);
            taken("b5" + telling + "a" + behind);
            taken("a5" + telling + "j" + behind);
            for (char sign : "`k A0;".toCharArray()) {
                fault("a5" + telling + sign + behind, -1003);
            }
            Museum.says("6 the WITNESS again behind s, o, h, w, at it; 7 ahead of 6");
            fault("a5" + telling + "a" + behind, -6003);
            fault("j95~9" + telling + "j" + behind, -6006);
            fault("a5" + telling + "a", -6003);
            fault("a5" + telling + "c" + behind, -7003);
            fault("c5" + telling + "c" + behind, -7000);
        }
        Museum.says("the witness's letter behind i or f can't stand there");
        fault("a5ia", -1003);
        fault("a5fa", -1003);
    }

    private static void spots() {
        Museum.says("i and two digits (x, y); w and a letter and two digits");
        String[] digits = {"00", "09", "90", "99", "37"};
        int[] spots = {0, 90, 9, 99, 73};
        for (int i = 0; i < digits.length; i++) {
            Museum m = people();
            Museum.due(digits[i], m.reports("a5i" + digits[i] + ";a5wb" + digits[i]), 2);
            Museum.due("its spot", m.x.report(0, 5), spots[i]);
            Museum.due("its spot", m.x.report(1, 5), spots[i]);
        }
        for (char sign : "/: a;".toCharArray()) {
            fault("a5i" + sign + "0", -1003);
            fault("a5i0" + sign, -1004);
            fault("a5wb" + sign + "0", -1004);
            fault("a5wb0" + sign, -1005);
        }
        fault("a5i000", -1005);
        fault("a5wb000", -1006);
        Museum.says("a SPOT of whatever kind");
        Museum m = people();
        m.town("#5599");
        Museum.due("a wall", m.reports("a5i77;a5wb99"), 2);
    }

    private static void shadows() {
        Museum.says("f and two digits (THE SHADOW falls that WAY, that long)");
        String[] digits = {"00", "09", "70", "79", "35"};
        int[] parts = {0, 9, 70, 79, 35};
        for (int i = 0; i < digits.length; i++) {
            Museum m = people();
            Museum.due(digits[i], m.reports("a5f" + digits[i]), 1);
            Museum.due("ten times the way and the length", m.x.report(0, 5), parts[i]);
        }
        Museum.says("3 a WAY above 7, at it");
        fault("a5f80", -3003);
        fault("a5f90", -3003);
        fault("a5f8", -3003);
        fault("a5f9x", -3003);
        fault("a5~1f80", -3005);
        for (char sign : "/: a;".toCharArray()) {
            fault("a5f" + sign + "0", -1003);
            fault("a5f0" + sign, -1004);
        }
        fault("a5f000", -1005);
    }

    private static void lines() {
        Museum.says("LINES with a ; (59) between two");
        Museum m = people();
        Museum.due("three", m.reports("a0sb;b1sa;j2i00"), 3);
        fault("a0sb;", -1005);
        fault("a0sb;;b0sa", -1005);
        fault(";a0sb", -1000);
        fault("a0sbb0sa", -1004);
        fault("a0sb:b0sa", -1004);
        fault("a0sb<b0sa", -1004);
        fault("a0sb b0sa", -1004);
        Museum.says("They come behind those there are");
        Museum.due("two more", m.reports("a3i00;a4i00"), 5);
        for (int i = 0; i < 5; i++) {
            Museum.due("minute of " + i, m.x.report(i, 1), i);
        }
    }

    private static void theEnd() {
        Museum.says("1 what can't stand there (the end, too)");
        String text = "a1~2wb34;b56f78";
        for (int n = 1; n <= text.length(); n++) {
            Museum m = people();
            int want = n == 8 ? 1 : n == text.length() ? 2 : -1000 - n;
            Museum.due(text.substring(0, n), m.reports(text.substring(0, n)), want);
        }
    }

    private static void noneComes() {
        Museum.says("a FAULT (none comes); FAULTS, the first from the left");
        Museum m = people();
        m.reports("a0i11;b1i22");
        String[] texts = {"a5i00;a6i00;a7", "a5i00;c6i00", "a5i00;a96i00;x", "a5i00;a6sa;a96i00", "a5i00;a6f80;a6sa"};
        int[] wants = {-1014, -7006, -2007, -6009, -3009};
        for (int i = 0; i < texts.length; i++) {
            Museum.due(texts[i], m.reports(texts[i]), wants[i]);
            Museum.due("reports", m.x.count(1), 2);
            Museum.due("behind the last", m.x.report(2, 0), -1);
            Museum.due("the last", m.x.report(1, 5), 22);
        }
        Museum.due("the next one", m.reports("a9i33"), 3);
        Museum.due("its minute", m.x.report(2, 1), 9);
    }

    private static void report() {
        Museum.says("report: what 0 to 5; 4 the other PERSON (-2: none), 5 the SPOT (-2: none); NONE for others");
        Museum m = people();
        m.reports("a12~3sb;b95oj;j0~9ha;a5i34;a5wj56;b7f78");
        int[][] parts = {{0, 12, 3, 's', 1, -2}, {1, 95, 0, 'o', 9, -2}, {9, 0, 9, 'h', 0, -2}, {0, 5, 0, 'i', -2, 43},
            {0, 5, 0, 'w', 9, 65}, {1, 7, 0, 'f', -2, 78}};
        for (int i = 0; i < 6; i++) {
            for (int what = 0; what < 6; what++) {
                Museum.due("report(" + i + ", " + what + ")", m.x.report(i, what), parts[i][what]);
            }
        }
        for (int other : new int[] {-1, 6, 40, Integer.MAX_VALUE, Integer.MIN_VALUE}) {
            Museum.due("report(" + other + ", 0)", m.x.report(other, 0), -1);
            Museum.due("report(0, " + other + ")", m.x.report(0, other), -1);
            Museum.due("report(5, " + other + ")", m.x.report(5, other), -1);
        }
    }

    private static void strike() {
        Museum.says("A REPORT is struck (those behind move up): true; false: no such one");
        Museum m = people();
        Museum.due("of none", m.x.strike(0), false);
        fill(m, 0, 40);
        for (int i : new int[] {-1, 40, Integer.MAX_VALUE, Integer.MIN_VALUE}) {
            Museum.due("strike(" + i + ")", m.x.strike(i), false);
            Museum.due("as many as there were", m.x.count(1), 40);
        }
        Museum.due("one in the middle", m.x.strike(20), true);
        Museum.due("ahead of it", m.x.report(19, 1), 19);
        Museum.due("in its place", m.x.report(20, 1), 21);
        Museum.due("the last", m.x.report(38, 1), 39);
        Museum.due("none behind it", m.x.report(39, 1), -1);
        Museum.due("the 40th is gone", m.x.strike(39), false);
        Museum.due("the last one", m.x.strike(38), true);
        Museum.due("the first one", m.x.strike(0), true);
        Museum.due("37", m.x.count(1), 37);
        Museum.due("the first", m.x.report(0, 1), 1);
        Museum.due("the last", m.x.report(36, 1), 38);
        Museum.due("a new one comes behind", m.reports("j7i55"), 38);
        Museum.due("those ahead stay", m.x.report(36, 1), 38);
        Museum.due("those ahead stay", m.x.report(18, 1), 19);
        Museum.due("those ahead stay", m.x.report(19, 1), 21);
        Museum.due("the new one", m.x.report(37, 1), 7);
    }

    private static void gives() {
        Museum.says("GIVEN BACK by PERSON p (0 to 9): how many REPORTS; NONE: no such one");
        Museum m = people();
        Museum.due("of none", m.x.gives(0), 0);
        fill(m, 0, 40);
        for (int p : new int[] {-1, 10, Integer.MAX_VALUE, Integer.MIN_VALUE}) {
            Museum.due("gives(" + p + ")", m.x.gives(p), -1);
        }
        Museum.due("one that is told and gave none", m.x.gives(9), 0);
        Museum.due("one that is not told", m.x.gives(5), 0);
        Museum.due("all stay", m.x.count(1), 40);
        Museum.says("all REPORTS of a PERSON are taken out (those behind move up)");
        Museum.due("a", m.x.gives(0), 20);
        Museum.due("20 stay", m.x.count(1), 20);
        for (int i = 0; i < 20; i++) {
            Museum.due("minute of " + i, m.x.report(i, 1), 2 * i + 1);
        }
        Museum.due("a has none left", m.x.gives(0), 0);
        m.reports("j1wb00;j2sb");
        Museum.due("b: not those that tell of it", m.x.gives(1), 20);
        Museum.due("two stay", m.x.count(1), 2);
        Museum.due("j", m.x.gives(9), 2);
        Museum.due("none", m.x.count(1), 0);
        Museum.due("none", m.x.report(0, 0), -1);
    }

    private static void holds(Museum m, String report, int want) {
        Museum.due("reports " + report, m.reports(report), 1);
        Museum.due(report, m.x.holds(0), want);
        m.x.strike(0);
    }

    private static void eachHolds() {
        Museum.says("it SEES that PERSON; it does not; it HEARS that one; it is at that SPOT; that PERSON is at that SPOT");
        Museum m = new Museum();
        m.plan(0, 0, "00");
        m.plan(1, 0, "20e");
        m.law("v2(p=0);h2(p=1);a3(u=0);a4(u=1);l5(u=0);l6(u=1)");
        holds(m, "a0sb", 1);
        holds(m, "a1sb", 0);
        holds(m, "b0sa", 0);
        holds(m, "a0ob", 0);
        holds(m, "a1ob", 1);
        holds(m, "b0oa", 1);
        holds(m, "a0hb", 1);
        holds(m, "a1hb", 0);
        holds(m, "b0ha", 0);
        holds(m, "b0i20", 1);
        holds(m, "b1i20", 0);
        holds(m, "b1i30", 1);
        holds(m, "b0i02", 0);
        holds(m, "a0wb20", 1);
        holds(m, "a1wb20", 0);
        holds(m, "a0i20", 0);
        holds(m, "a0f35", 1);
        holds(m, "a0f36", 0);
        holds(m, "a0f45", 0);
        holds(m, "a0f46", 0);
        m.x.sun(1);
        holds(m, "a0f46", 1);
        holds(m, "a0f35", 0);
        Museum.says("NONE: no such one");
        m.reports("a0sb");
        for (int i : new int[] {-1, 1, 40, Integer.MAX_VALUE, Integer.MIN_VALUE}) {
            Museum.due("holds(" + i + ")", m.x.holds(i), -1);
        }
    }

    private static void slips() {
        Museum.says("in one MINUTE at least from its MINUTE less the SLIP to its MINUTE and the SLIP");
        Museum m = new Museum();
        // at (1, 0) in minute 50 alone
        m.plan(0, 0, "00" + Museum.times("9.", 5) + "4.ee");
        for (int slip = 0; slip < 10; slip++) {
            holds(m, "a" + (50 - slip) + "~" + slip + "i10", 1);
            holds(m, "a" + (50 + slip) + "~" + slip + "i10", 1);
            holds(m, "a" + (49 - slip) + "~" + slip + "i10", 0);
            holds(m, "a" + (51 + slip) + "~" + slip + "i10", 0);
        }
        Museum.says("the SLIP, else 0");
        holds(m, "a50i10", 1);
        holds(m, "a49i10", 0);
        holds(m, "a51i10", 0);
        Museum.says("in one MINUTE at least: seen and not seen by one slip");
        m.plan(1, 0, "10");
        holds(m, "b50~1sa", 1);
        holds(m, "b50~1oa", 1);
        holds(m, "b50oa", 0);
        holds(m, "b49sa", 0);
    }

    private static void edgesOfTheDay() {
        Museum.says("(those from 0 to 95)");
        Museum m = new Museum();
        m.plan(0, 0, "01s" + Museum.times("9.", 10) + "3.n");
        holds(m, "a0~9i01", 1);
        holds(m, "a9~9i01", 1);
        holds(m, "a10~9i01", 0);
        holds(m, "a95~9i01", 1);
        holds(m, "a86~9i01", 1);
        holds(m, "a85~9i01", 0);
        holds(m, "a0i00", 0);
        holds(m, "a95i00", 0);
        holds(m, "a0~1i00", 1);
        holds(m, "a95~1i00", 1);
        m.plan(9, 0, "55");
        m.plan(9, 1, "55");
        m.plan(9, 2, "55");
        m.x.choose(9, 2);
        holds(m, "j95~9i55", 1);
        holds(m, "j95~9i00", 0);
        holds(m, "j95~9sa", 0);
        holds(m, "j95~9ha", 0);
        m.x.sun(1);
        holds(m, "j95~9f10", 0);
    }

    private static void told() {
        Museum.says("told: what 0 how many HOLD, 1 the first that does not (-2: all do); NONE: no such what");
        Museum m = people();
        Museum.due("of none, 0", m.x.told(0), 0);
        Museum.due("of none, 1", m.x.told(1), -2);
        fill(m, 0, 40);
        Museum.due("those of a hold", m.x.told(0), 20);
        Museum.due("the first of b", m.x.told(1), 1);
        m.x.strike(1);
        Museum.due("the next of b", m.x.told(1), 2);
        m.x.gives(1);
        Museum.due("all do", m.x.told(1), -2);
        Museum.due("all 20", m.x.told(0), 20);
        m.reports("b0i00");
        Museum.due("the last does not", m.x.told(1), 20);
        m.x.gives(0);
        Museum.due("the only one does not", m.x.told(1), 0);
        Museum.due("none holds", m.x.told(0), 0);
        for (int what : new int[] {-1, 2, Integer.MAX_VALUE, Integer.MIN_VALUE}) {
            Museum.due("told(" + what + ")", m.x.told(what), -1);
        }
    }
}
