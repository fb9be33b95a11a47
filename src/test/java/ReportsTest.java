/** Promises 6 (reports), 7 (strike), 8 (gives), 11 (report), 16 (holds) and 17 (told). */
public final class ReportsTest {
    public static void main(String[] args) {
        rows();
        faults();
        refused();
        takenOut();
        holding();
        slips();
        lastMinute();
        told();
        Museum.end("ReportsTest");
    }

    private static Museum threePeople() {
        Museum m = new Museum();
        m.plan(0, 0, "00");
        m.plan(1, 0, "304n");
        m.plan(4, 0, "99");
        return m;
    }

    private static void row(Museum m, int i, int... parts) {
        for (int what = 0; what < parts.length; what++) {
            Museum.due("report(" + i + ", " + what + ")", m.x.report(i, what), parts[what]);
        }
    }

    private static void rows() {
        Museum m = threePeople();
        Museum.due("one of each", m.reports("a0sb;a5~3oe;b95he;e7i12;e07~0wa34;a10f79"), 6);
        row(m, 0, 0, 0, 0, 's', 1, -2);
        row(m, 1, 0, 5, 3, 'o', 4, -2);
        row(m, 2, 1, 95, 0, 'h', 4, -2);
        row(m, 3, 4, 7, 0, 'i', -2, 21);
        row(m, 4, 4, 7, 0, 'w', 0, 43);
        row(m, 5, 0, 10, 0, 'f', -2, 79);
        Museum.due("others come behind", m.reports("b1i00"), 7);
        row(m, 6, 1, 1, 0, 'i', -2, 0);
        row(m, 0, 0, 0);
        Museum.due("count(1)", m.x.count(1), 7);
        Museum.due("no such report", m.x.report(7, 0), -1);
        Museum.due("no such report", m.x.report(-1, 0), -1);
        Museum.due("no such what", m.x.report(0, 6), -1);
        Museum.due("no such what", m.x.report(0, -1), -1);
    }

    private static void faults() {
        Museum m = threePeople();
        m.reports("a0sb");
        Museum.due("no person", m.reports("k0sb"), -1000);
        Museum.due("a capital", m.reports("A0sb"), -1000);
        Museum.due("one that is not told", m.reports("c0sb"), -7000);
        Museum.due("no minute", m.reports("asb"), -1001);
        Museum.due("minute 96", m.reports("a96sb"), -2001);
        Museum.due("asked when the digits end", m.reports("a96x"), -2001);
        Museum.due("asked behind two digits", m.reports("a960sb"), -2001);
        Museum.due("three digits", m.reports("a095sb"), -1003);
        Museum.due("a slip without a digit", m.reports("a1~sb"), -1003);
        Museum.due("a slip of two digits", m.reports("a1~10sb"), -1004);
        Museum.due("nothing told", m.reports("a1"), -1002);
        Museum.due("another letter", m.reports("a1xb"), -1002);
        Museum.due("nobody seen", m.reports("a1s"), -1003);
        Museum.due("no such one seen", m.reports("a1sk"), -1003);
        Museum.due("one that is not told is seen", m.reports("a1sc"), -7003);
        Museum.due("the witness is seen", m.reports("a1sa"), -6003);
        Museum.due("the witness is not seen", m.reports("a1oa"), -6003);
        Museum.due("the witness is heard", m.reports("b1hb"), -6003);
        Museum.due("where the witness is", m.reports("e1we00"), -6003);
        Museum.due("not told, the witness's own letter", m.reports("c1sc"), -7000);
        Museum.due("no spot", m.reports("a1i"), -1003);
        Museum.due("half a spot", m.reports("a1i0"), -1004);
        Museum.due("half a spot", m.reports("a1wb0;"), -1005);
        Museum.due("way 8", m.reports("a1f80"), -3003);
        Museum.due("way 9 and the end", m.reports("a1f9"), -3003);
        Museum.due("no length", m.reports("a1f7"), -1004);
        Museum.due("no way", m.reports("a1f"), -1003);
        Museum.due("a ; and the end", m.reports("a1sb;"), -1005);
        Museum.due("no ;", m.reports("a1sba1se"), -1004);
        Museum.due("a blank", m.reports("a1sb ;a1se"), -1004);
        Museum.due("a fault in the third", m.reports("a1sb;b1i00;b96i00"), -2012);
        Museum.due("none of them came", m.x.count(1), 1);
        Museum.due("the tape is empty", m.x.count(3), 0);
        for (int i = 0; i < 3; i++) {
            m.reports(Museum.row("a1sb", ";", 13));
        }
        Museum.due("39 and one", m.x.count(1), 40);
        Museum.due("a 41st", m.reports("a1sb"), -4000);
        Museum.due("a 41st of one that is not told", m.reports("c1sb"), -4000);
        Museum.due("a 41st of nobody", m.reports("k1sb"), -1000);
        m.x.strike(0);
        Museum.due("a 41st behind a 40th", m.reports("a1sb;a1sb"), -4005);
        Museum.due("39 are left", m.x.count(1), 39);
        Museum.due("the 40th", m.reports("a1sb"), 40);
    }

    private static void refused() {
        Museum m = threePeople();
        Museum.due("an empty tape", m.x.reports(1), -1);
        m.feed("a0sb");
        Museum.due("0 bytes", m.x.reports(0), -1);
        Museum.due("-1 bytes", m.x.reports(-1), -1);
        Museum.due("21 bytes", m.x.reports(21), -1);
        Museum.due("the tape stays", m.x.count(3), 20);
        Museum.due("4 bytes", m.x.reports(4), 1);
        m.feed(Museum.row("a0sb", ";", 45));
        Museum.due("201 bytes", m.x.reports(201), -1);
        Museum.due("the tape stays", m.x.count(3), 240);
        Museum.due("199 bytes", m.x.reports(199), -4195);
        Museum.due("200 bytes", m.reports(Museum.row("a00sb", ";", 33) + ";a0"), -1200);
    }

    private static void takenOut() {
        Museum m = threePeople();
        m.reports("a0sb;b1sa;e2sa;a3sb;b4sa;a5sb");
        Museum.due("strike(6)", m.x.strike(6), false);
        Museum.due("strike(-1)", m.x.strike(-1), false);
        Museum.due("strike(1)", m.x.strike(1), true);
        Museum.due("five are left", m.x.count(1), 5);
        row(m, 0, 0, 0);
        row(m, 1, 4, 2);
        row(m, 4, 0, 5);
        Museum.due("no sixth", m.x.report(5, 0), -1);
        Museum.due("gives(0)", m.x.gives(0), 3);
        Museum.due("two are left", m.x.count(1), 2);
        row(m, 0, 4, 2);
        row(m, 1, 1, 4);
        Museum.due("gives again", m.x.gives(0), 0);
        Museum.due("one that is not told gives none", m.x.gives(9), 0);
        Museum.due("no person", m.x.gives(10), -1);
        Museum.due("no person", m.x.gives(-1), -1);
        Museum.due("the last", m.x.strike(1), true);
        Museum.due("the first", m.x.strike(0), true);
        Museum.due("none", m.x.strike(0), false);
    }

    private static void holds(Museum m, String report, int want) {
        Museum.due("reports " + report, m.reports(report), 1);
        Museum.due(report, m.x.holds(0), want);
        m.x.strike(0);
    }

    private static void holding() {
        Museum m = new Museum();
        m.plan(0, 0, "00");
        m.plan(0, 1, "00e");
        m.plan(1, 0, "304n");
        m.plan(2, 0, "09");
        m.law("v3(1=1);h3(p=1);a2(u=0);a6(u=1);l4(t<9)");
        holds(m, "a0sb", 1);
        holds(m, "a1sb", 0);
        holds(m, "a3sb", 1);
        holds(m, "a4sb", 0);
        holds(m, "a0ob", 0);
        holds(m, "a1ob", 1);
        holds(m, "a0hb", 1);
        holds(m, "a1hb", 0);
        holds(m, "b0ha", 0);
        holds(m, "b0hc", 0);
        holds(m, "b2i32", 1);
        holds(m, "b2i23", 0);
        holds(m, "a2wb32", 1);
        holds(m, "a2wb33", 0);
        holds(m, "c8f24", 1);
        holds(m, "c9f24", 0);
        holds(m, "c9f20", 1);
        holds(m, "c8f64", 0);
        m.x.sun(1);
        holds(m, "c8f64", 1);
        holds(m, "c8f24", 0);
        m.x.choose(0, 1);
        holds(m, "a0sb", 1);
        holds(m, "a3sb", 0);
        holds(m, "a2sb", 1);
        holds(m, "a1i10", 1);
        holds(m, "b1wa10", 1);
        Museum.due("no such report", m.x.holds(0), -1);
        Museum.due("no such report", m.x.holds(-1), -1);
        Museum.due("no such report", m.x.holds(40), -1);
    }

    private static void slips() {
        Museum m = new Museum();
        m.plan(0, 0, "007.e" + Museum.times("9.", 9) + "5.e");
        holds(m, "a4~4i10", 1);
        holds(m, "a4~3i10", 0);
        holds(m, "a8~0i10", 1);
        holds(m, "a9~2i00", 1);
        holds(m, "a9~1i00", 0);
        holds(m, "a0~9i10", 1);
        holds(m, "a0~7i10", 0);
        holds(m, "a95i20", 1);
        holds(m, "a94i20", 0);
        m.plan(0, 0, "00" + Museum.times("9.", 10) + "4.e");
        holds(m, "a95i10", 1);
        holds(m, "a94i10", 0);
        holds(m, "a86~9i10", 1);
        holds(m, "a95~9i20", 0);
        holds(m, "a95~9i00", 1);
        m.plan(1, 0, "90");
        m.law("v9(t<40)");
        holds(m, "a35~9ob", 1);
        holds(m, "a35~4ob", 0);
        holds(m, "a45~6sb", 1);
        holds(m, "a45~5sb", 0);
    }

    private static void lastMinute() {
        Museum m = new Museum();
        m.plan(0, 0, "55");
        m.plan(9, 0, "55");
        holds(m, "a95~9i00", 0);
        holds(m, "a95~9i55", 1);
        holds(m, "j95~9i00", 0);
        holds(m, "j95~9wa55", 1);
        holds(m, "j95~9f11", 0);
        m.x.sun(1);
        holds(m, "j95~9f11", 0);
        holds(m, "j0~9f00", 1);
    }

    private static void told() {
        Museum m = new Museum();
        Museum.due("none: how many hold", m.x.told(0), 0);
        Museum.due("none: all hold", m.x.told(1), -2);
        m.plan(0, 0, "00");
        m.reports("a0i00;a1i00;a2i10;a3i00;a4i10");
        Museum.due("told(0)", m.x.told(0), 3);
        Museum.due("told(1)", m.x.told(1), 2);
        Museum.due("told(2)", m.x.told(2), -1);
        Museum.due("told(-1)", m.x.told(-1), -1);
        m.x.choose(0, 1);
        Museum.due("not the first", m.x.told(1), 2);
        m.plan(0, 1, "99");
        m.x.choose(0, 1);
        Museum.due("the first", m.x.told(1), 0);
        Museum.due("none", m.x.told(0), 0);
        m.x.choose(0, 0);
        m.x.strike(4);
        m.x.strike(2);
        Museum.due("told(0)", m.x.told(0), 3);
        Museum.due("told(1)", m.x.told(1), -2);
    }
}
