/** Promises 18 (best), 19 (struck), 20 (quarrel), 21 (ask) and 22 (enough). */
public final class DaysTest {
    public static void main(String[] args) {
        nobody();
        best();
        order();
        tooMany();
        quarrels();
        threes();
        ask();
        enough();
        Museum.end("DaysTest");
    }

    private static void nobody() {
        Museum m = new Museum();
        Museum.due("nobody: best(0)", m.x.best(0), 0);
        Museum.due("nobody: best(1)", m.x.best(1), 0);
        Museum.due("nobody: best(2)", m.x.best(2), 2);
        Museum.due("nobody: best(3)", m.x.best(3), 2);
        Museum.due("nobody: best(10)", m.x.best(10), -1);
        Museum.due("nobody: struck()", m.x.struck(), 0);
        Museum.due("nobody: quarrel(0)", m.x.quarrel(0), -2);
        Museum.due("nobody: quarrel(1)", m.x.quarrel(1), -2);
        Museum.due("nobody: quarrel(4)", m.x.quarrel(4), 0);
        Museum.due("nobody: ask(0)", m.x.ask(0), -2);
        Museum.due("nobody: ask(1)", m.x.ask(1), -2);
        Museum.due("nobody: ask(2)", m.x.ask(2), 2);
        Museum.due("nobody: ask(3)", m.x.ask(3), 2);
        Museum.due("nobody: enough(0)", m.x.enough(0), 0);
        Museum.due("nobody: enough(1)", m.x.enough(1), 2);
        Museum.due("best(4)", m.x.best(4), -1);
        Museum.due("best(-1)", m.x.best(-1), -1);
        Museum.due("best(20)", m.x.best(20), -1);
        Museum.due("best(9)", m.x.best(9), -1);
        Museum.due("quarrel(5)", m.x.quarrel(5), -1);
        Museum.due("quarrel(-1)", m.x.quarrel(-1), -1);
        Museum.due("ask(4)", m.x.ask(4), -1);
        Museum.due("ask(-1)", m.x.ask(-1), -1);
        Museum.due("enough(2)", m.x.enough(2), -1);
        Museum.due("enough(-1)", m.x.enough(-1), -1);
    }

    private static void best() {
        Museum m = new Museum();
        m.plan(0, 0, "00");
        m.plan(0, 2, "10");
        m.plan(3, 0, "50");
        m.plan(3, 1, "60");
        m.law("l3(u=1)");
        Museum.due("days", m.x.best(3), 8);
        Museum.due("no reports hold in all", m.x.best(2), 8);
        m.reports("a0i10;a1i10;a2i00;d0i60;d1i70");
        Museum.due("most", m.x.best(0), 3);
        Museum.due("version of 0", m.x.best(10), 2);
        Museum.due("version of 3", m.x.best(13), 1);
        Museum.due("the first of two suns", m.x.best(1), 0);
        Museum.due("in how many", m.x.best(2), 2);
        Museum.due("struck", m.x.struck(), 0b10100);
        m.reports("a0f03");
        Museum.due("most", m.x.best(0), 4);
        Museum.due("the other sun", m.x.best(1), 1);
        Museum.due("in how many", m.x.best(2), 1);
        Museum.due("struck", m.x.struck(), 0b010100);
        Museum.due("nobody of 1", m.x.best(11), -1);
        Museum.due("the day that is chosen does not matter", m.x.count(10), 0);
        for (int i = 0; i < 34; i++) {
            m.reports("d5i99");
        }
        Museum.due("40 reports", m.x.count(1), 40);
        Museum.due("of 40 reports", m.x.struck(), 0xFFFFFFFFC0L | 0b010100);
        m.reports("d5i99");
        Museum.due("and no more", m.x.count(1), 40);
    }

    private static void order() {
        Museum m = new Museum();
        m.plan(1, 0, "00");
        m.plan(1, 1, "10");
        m.plan(1, 2, "20");
        m.plan(2, 0, "00");
        m.plan(2, 2, "20");
        m.reports("b0i10;c0i20");
        Museum.due("both", m.x.best(0), 2);
        m.reports("b0i20;c0i00");
        // days with two: (1, 0), (1, 2), (2, 0), (2, 2), each by two suns; the first is (1, 0)
        Museum.due("two of four", m.x.best(0), 2);
        Museum.due("the lowest person's version changes last", m.x.best(11), 1);
        Museum.due("of like ones the first", m.x.best(12), 0);
        Museum.due("as many do", m.x.best(2), 8);
        Museum.due("days", m.x.best(3), 12);
        m.law("a1(u=1)");
        m.reports("b0f10");
        Museum.due("three of five", m.x.best(0), 3);
        Museum.due("by the second sun", m.x.best(1), 1);
        Museum.due("as many do", m.x.best(2), 4);
        Museum.due("struck", m.x.struck(), 0b00110);
    }

    private static void tooMany() {
        Museum m = new Museum();
        for (int p = 0; p < 6; p++) {
            for (int v = 0; v < 3; v++) {
                m.plan(p, v, "0" + (v + 1) + "e");
            }
        }
        m.plan(9, 0, "99");
        Museum.due("1458 days", m.x.best(3), 1458);
        Museum.due("1458 like days", m.x.best(2), 1458);
        Museum.due("questions", m.x.ask(3), 1458);
        m.reports("a0i03;b0i03;c0i03;d0i02;e0i01;f0i03");
        Museum.due("one row", m.x.best(2), 2);
        Museum.due("the last version", m.x.best(15), 2);
        Museum.due("the second version", m.x.best(13), 1);
        Museum.due("the first version", m.x.best(14), 0);
        Museum.due("struck", m.x.struck(), 0);
        m.plan(9, 1, "99");
        for (int what = 0; what < 4; what++) {
            Museum.due("too many: best(" + what + ")", m.x.best(what), -3);
            Museum.due("too many: ask(" + what + ")", m.x.ask(what), -3);
        }
        Museum.due("too many: best(19)", m.x.best(19), -3);
        Museum.due("too many: best(18)", m.x.best(18), -1);
        Museum.due("too many: best(4)", m.x.best(4), -1);
        Museum.due("too many: struck()", m.x.struck(), -3);
        for (int what = 0; what < 5; what++) {
            Museum.due("too many: quarrel(" + what + ")", m.x.quarrel(what), -3);
        }
        Museum.due("too many: quarrel(5)", m.x.quarrel(5), -1);
        Museum.due("too many: ask(4)", m.x.ask(4), -1);
        Museum.due("too many: enough(0)", m.x.enough(0), -3);
        Museum.due("too many: enough(1)", m.x.enough(1), -3);
        Museum.due("too many: enough(2)", m.x.enough(2), -1);
        Museum.due("told is of the day alone", m.x.told(0), 1);
        for (int p = 6; p < 10; p++) {
            for (int v = 0; v < 3; v++) {
                m.plan(p, v, "0" + (v + 1));
            }
        }
        Museum.due("ten people with three versions", m.x.best(0), -3);
    }

    private static void quarrels() {
        Museum m = new Museum();
        m.plan(0, 0, "00");
        m.plan(0, 1, "10");
        m.plan(1, 0, "50");
        m.reports("a0i00;b0i50;a0i10;b0i60");
        Museum.due("one alone", m.x.quarrel(0), 1);
        Museum.due("which", m.x.quarrel(1), 3);
        Museum.due("no second", m.x.quarrel(2), -2);
        Museum.due("no third", m.x.quarrel(3), -2);
        Museum.due("rows", m.x.quarrel(4), 1);
        m.x.strike(3);
        Museum.due("two", m.x.quarrel(0), 2);
        Museum.due("the first of two", m.x.quarrel(1), 0);
        Museum.due("the second of two", m.x.quarrel(2), 2);
        Museum.due("no third", m.x.quarrel(3), -2);
        Museum.due("rows", m.x.quarrel(4), 1);
        m.reports("a1i10;a1i00");
        Museum.due("rows", m.x.quarrel(4), 4);
        Museum.due("the least", m.x.quarrel(2), 2);
        m.x.gives(0);
        Museum.due("none", m.x.quarrel(0), -2);
        Museum.due("none", m.x.quarrel(1), -2);
        Museum.due("none", m.x.quarrel(4), 0);
        m.law("a1(u=1)");
        m.reports("b0f00;b0f10");
        Museum.due("two suns", m.x.quarrel(0), 2);
        Museum.due("two suns", m.x.quarrel(1), 1);
        Museum.due("two suns", m.x.quarrel(2), 2);
    }

    private static void threes() {
        Museum m = new Museum();
        m.plan(0, 0, "00..n");
        m.plan(0, 1, "01.s.");
        m.plan(0, 2, "00.ns");
        // on (0, 0) in two of the minutes 1, 2, 3 by each version
        m.reports("a1i00;a2i00;a3i00");
        Museum.due("three", m.x.quarrel(0), 3);
        Museum.due("the first of three", m.x.quarrel(1), 0);
        Museum.due("the second of three", m.x.quarrel(2), 1);
        Museum.due("the third of three", m.x.quarrel(3), 2);
        Museum.due("one row", m.x.quarrel(4), 1);
        m.reports("a3i00;a9~9i00");
        Museum.due("two rows", m.x.quarrel(4), 2);
        Museum.due("the least of them", m.x.quarrel(3), 2);
        m.x.strike(0);
        Museum.due("none is left", m.x.quarrel(0), -2);
        m.reports("a1i01;a1i00");
        Museum.due("two come ahead of three", m.x.quarrel(0), 2);
        Museum.due("the first of two", m.x.quarrel(1), 4);
        Museum.due("the second of two", m.x.quarrel(2), 5);
        Museum.due("rows of two alone", m.x.quarrel(4), 1);
        sight();
    }

    private static void sight() {
        Museum m = new Museum();
        m.plan(0, 0, "00");
        m.plan(0, 1, "10");
        m.plan(1, 0, "50");
        m.plan(2, 0, "00");
        m.plan(2, 1, "20");
        m.plan(2, 2, "99");
        m.law("v1(1=1)");
        m.reports("b5i50;c0~1sa;a0i00;c0oa;a0i00");
        Museum.due("seen and not seen", m.x.quarrel(0), 2);
        Museum.due("the least", m.x.quarrel(1), 1);
        Museum.due("with", m.x.quarrel(2), 3);
        Museum.due("rows", m.x.quarrel(4), 1);
        m.x.strike(3);
        m.reports("c0wa00;c0i20");
        // c on (2, 0) sees a on (1, 0) alone: that it sees it, where a is, and where c is; a's spot is told three times
        Museum.due("three", m.x.quarrel(0), 3);
        Museum.due("the first", m.x.quarrel(1), 1);
        Museum.due("the second", m.x.quarrel(2), 2);
        Museum.due("the third", m.x.quarrel(3), 5);
        Museum.due("rows of three", m.x.quarrel(4), 3);
    }

    private static void ask() {
        Museum m = new Museum();
        m.plan(0, 0, "00");
        m.plan(1, 0, "009e");
        m.plan(1, 1, "002.9e");
        m.plan(1, 2, "005.9e");
        // b is on (0, 0) till 0, till 2, till 5
        Museum.due("who", m.x.ask(0), 0);
        Museum.due("when", m.x.ask(1), 1);
        Museum.due("at most", m.x.ask(2), 4);
        Museum.due("of", m.x.ask(3), 6);
        m.plan(1, 2, "00.9e");
        Museum.due("till 0, till 2, till 1: the first that parts them", m.x.ask(1), 1);
        m.plan(2, 0, "10");
        m.plan(2, 1, "10n");
        // a has c beside it always; b is on (3, 0), (1, 0), (2, 0) in minute 3 and sees nobody, both, or c alone
        m.law("v1(1=1)");
        Museum.due("of", m.x.ask(3), 12);
        Museum.due("who", m.x.ask(0), 1);
        Museum.due("when", m.x.ask(1), 3);
        Museum.due("at most", m.x.ask(2), 4);
        m = new Museum();
        m.plan(4, 0, "00");
        m.plan(7, 0, "00");
        Museum.due("one row of versions: who", m.x.ask(0), 4);
        Museum.due("one row of versions: when", m.x.ask(1), 0);
        Museum.due("one row of versions: at most", m.x.ask(2), 2);
        m.law("a1(u=1)");
        m.reports("e0f10");
        Museum.due("one day: at most", m.x.ask(2), 1);
        Museum.due("one day: of", m.x.ask(3), 1);
        Museum.due("one day: who", m.x.ask(0), 4);
        m.plan(7, 1, "01e");
        m.plan(4, 1, "01e");
        m.reports("h5i11;e5i00");
        Museum.due("of the best days alone", m.x.ask(3), 1);
    }

    private static void enough() {
        Museum m = new Museum();
        m.plan(0, 0, "00");
        Museum.due("no question", m.x.enough(0), 0);
        Museum.due("two days", m.x.enough(1), 2);
        m.plan(1, 0, "009e");
        m.plan(1, 1, "002.9e");
        m.plan(1, 2, "005.9e");
        Museum.due("two questions", m.x.enough(0), 2);
        Museum.due("two days by suns", m.x.enough(1), 2);
        m.law("a1(u=1)");
        m.reports("a0f10");
        Museum.due("two questions", m.x.enough(0), 2);
        Museum.due("one day", m.x.enough(1), 1);
        m.reports("b3i00");
        Museum.due("one day is best", m.x.enough(0), 0);
        m = new Museum();
        m.plan(0, 0, "00");
        m.plan(1, 0, "05");
        m.plan(1, 1, "00");
        m.plan(2, 0, "06");
        m.plan(2, 1, "07");
        // the least bits (nobody seen) are followed: b is at 05, and c's versions are seen by nobody
        m.law("v1(p=1&y=5)");
        Museum.due("b sees c at 06 or not", m.x.enough(0), 2);
        Museum.due("then the suns are left", m.x.enough(1), 2);
        m = new Museum();
        m.plan(0, 0, "00");
        m.plan(0, 1, "90");
        m.plan(1, 0, "01");
        m.plan(2, 0, "91");
        m.plan(2, 1, "55");
        // b sees a or nobody, in as many days; behind nobody c may see a or not
        m.law("v1(p=1|p=2)");
        Museum.due("nobody is less than a", m.x.enough(0), 2);
        Museum.due("then the suns are left", m.x.enough(1), 2);
        m = new Museum();
        m.plan(0, 0, "00");
        m.plan(1, 0, "05");
        m.plan(1, 1, "00");
        m.plan(2, 0, "06");
        m.plan(2, 1, "07");
        m.law("v1(p=9)");
        Museum.due("c is never seen", m.x.enough(0), 1);
        Museum.due("c's versions and the suns are left", m.x.enough(1), 4);
    }
}
