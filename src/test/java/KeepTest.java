/** Promises 45 (keep), 46 (undo), 47 (check) and 48 (count). */
public final class KeepTest {
    public static void main(String[] args) {
        keep();
        again();
        later();
        check();
        count();
        Museum.end("KeepTest");
    }

    private static void keep() {
        Museum m = new Museum();
        Museum.due("undo ahead of keep", m.x.undo(), false);
        m.plan(0, 0, "00e");
        m.plan(0, 1, "11");
        m.plan(1, 0, "22");
        m.reports("a0i00;b0i22");
        m.x.choose(0, 1);
        m.x.sun(1);
        m.x.found(1, 4);
        m.x.thing(2, 0);
        m.x.carry(2, 0, 0, 1);
        m.law("a1(1=1)");
        Museum.due("keep", m.x.keep(), 2);
        m.x.choose(0, 0);
        m.x.sun(0);
        m.x.found(1, -1);
        m.x.found(0, 3);
        m.reports("a0sb");
        m.x.gives(0);
        m.x.thing(2, 50);
        m.x.thing(3, 60);
        m.law("a2(1=1);l3(1=1)");
        m.plan(0, 1, "33");
        m.town("#9999");
        m.tram("33:5");
        m.feed("abc");
        Museum.due("undo", m.x.undo(), true);
        Museum.due("version", m.x.count(10), 1);
        Museum.due("the sun", m.x.count(4), 1);
        Museum.due("reports", m.x.count(1), 2);
        Museum.due("the first report", m.x.report(0, 5), 0);
        Museum.due("found", m.x.count(31), 4);
        Museum.due("not found", m.x.count(30), -2);
        Museum.due("things", m.x.count(6), 0b100);
        Museum.due("a thing's spot", m.x.where(2, 0), 0);
        Museum.due("the law stays", m.x.count(2), 2);
        Museum.due("plans stay", m.x.at(0, 0), 33);
        Museum.due("the town stays", m.x.count(199), 1);
        Museum.due("the tram stays", m.x.count(5), 1);
        Museum.due("and goes by the day", m.x.tickets(10), 0);
        Museum.due("the tape stays", m.x.count(3), 20);
        m.x.choose(0, 0);
        Museum.due("carried still", m.x.where(2, 1), 1);
    }

    private static void again() {
        Museum m = new Museum();
        Museum.due("nothing to keep", m.x.keep(), 0);
        m.plan(0, 0, "00");
        m.reports("a0i00");
        Museum.due("undo", m.x.undo(), true);
        Museum.due("no reports", m.x.count(1), 0);
        Museum.due("the person stays", m.x.count(0), 1);
        m.reports("a0i00;a1i00");
        Museum.due("undo again", m.x.undo(), true);
        Museum.due("no reports", m.x.count(1), 0);
        m.reports("a0i00;a1i00");
        Museum.due("keep again", m.x.keep(), 2);
        m.x.strike(0);
        Museum.due("undo", m.x.undo(), true);
        Museum.due("as it was kept last", m.x.count(1), 2);
        m.x.strike(1);
        Museum.due("undo a second time", m.x.undo(), true);
        Museum.due("as it was kept last", m.x.report(1, 1), 1);
    }

    private static void later() {
        Museum m = new Museum();
        m.x.keep();
        m.plan(5, 0, "00");
        m.plan(5, 1, "11");
        m.x.choose(5, 1);
        m.x.found(5, 7);
        m.x.undo();
        Museum.due("told later: version 0", m.x.count(15), 0);
        Museum.due("told later: nothing found", m.x.count(35), -2);
        Museum.due("told later: told still", m.x.count(25), 3);
    }

    private static void check() {
        Museum m = new Museum();
        m.plan(3, 0, "002en");
        m.plan(3, 1, "99");
        m.feed(0, 1, 2, 12, 12);
        Museum.due("right", m.x.check(3, 5), -1);
        Museum.due("the tape is empty", m.x.count(3), 0);
        m.feed(0, 1, 3, 12, 13);
        Museum.due("the first that is not so", m.x.check(3, 5), 2);
        Museum.due("the tape is empty", m.x.count(3), 0);
        m.feed(1, 1, 2);
        Museum.due("the very first", m.x.check(3, 3), 0);
        m.feed(0, 1, 2, 12, 13);
        Museum.due("the last", m.x.check(3, 5), 4);
        m.feed(0, 1, 2, 12, 13);
        Museum.due("no more than asked", m.x.check(3, 4), -1);
        m.feed(1);
        Museum.due("none", m.x.check(3, 0), -1);
        Museum.due("the tape is empty", m.x.count(3), 0);
        Museum.due("none of an empty tape", m.x.check(3, 0), -1);
        Museum.due("one of an empty tape", m.x.check(3, 1), -2);
        int[] day = new int[100];
        for (int t = 0; t < 100; t++) {
            day[t] = 99;
        }
        m.x.choose(3, 1);
        m.feed(day);
        Museum.due("97", m.x.check(3, 97), -2);
        Museum.due("-1", m.x.check(3, -1), -2);
        Museum.due("nobody", m.x.check(4, 5), -2);
        Museum.due("person 10", m.x.check(10, 5), -2);
        Museum.due("person -1", m.x.check(-1, 5), -2);
        Museum.due("the tape stays", m.x.count(3), 100);
        Museum.due("the whole day", m.x.check(3, 96), -1);
        day[95] = 98;
        m.feed(day);
        Museum.due("all but the last", m.x.check(3, 96), 95);
    }

    private static void count() {
        Museum m = new Museum();
        m.plan(0, 0, "00e");
        m.plan(9, 0, "00");
        m.plan(9, 2, "007n");
        m.x.choose(9, 2);
        m.x.found(9, 9);
        m.reports("a0sj");
        m.law("a1(1=1);a2(1=1)");
        m.tram("00:1,11:2");
        m.x.thing(1, 1);
        m.x.sun(1);
        m.feed("x");
        int[] counts = {0b1000000001, 1, 2, 20, 1, 2, 0b10};
        for (int what = 0; what < counts.length; what++) {
            Museum.due("count(" + what + ")", m.x.count(what), counts[what]);
        }
        Museum.due("count(19)", m.x.count(19), 2);
        Museum.due("count(29)", m.x.count(29), 5);
        Museum.due("count(39)", m.x.count(39), 9);
        Museum.due("count(49)", m.x.count(49), 7);
        Museum.due("count(40)", m.x.count(40), 1);
        Museum.due("count(30)", m.x.count(30), -2);
        for (int what = 7; what < 10; what++) {
            Museum.due("count(" + what + ")", m.x.count(what), -1);
        }
        for (int p = 1; p < 9; p++) {
            for (int tens = 10; tens < 50; tens += 10) {
                Museum.due("count(" + (tens + p) + ")", m.x.count(tens + p), -1);
            }
        }
        for (int what = 50; what < 100; what++) {
            Museum.due("count(" + what + ")", m.x.count(what), -1);
        }
        Museum.due("count(200)", m.x.count(200), -1);
        Museum.due("count(-1)", m.x.count(-1), -1);
        Museum.due("count(least)", m.x.count(Integer.MIN_VALUE), -1);
    }
}
