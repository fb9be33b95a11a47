/** Edges of what is kept, undone, checked and counted: promises 45, 46, 47 and 48. */
public final class KeepEdgeTest {
    private static final int MOST = Integer.MAX_VALUE;
    private static final int LEAST = Integer.MIN_VALUE;

    public static void main(String[] args) {
        keep();
        undoAheadOfKeep();
        keptAreAll();
        nothingElseIsKept();
        keptLast();
        toldLater();
        check();
        checkRefused();
        count();
        countOfPeople();
        Museum.end("KeepEdgeTest");
    }

    private static void keep() {
        Museum.says("KEPT: how many REPORTS");
        Museum m = new Museum();
        Museum.due("none", m.x.keep(), 0);
        m.plan(0, 0, "00");
        m.reports("a0i00");
        Museum.due("one", m.x.keep(), 1);
        m.reports(Museum.row("a1i00", ";", 33));
        m.reports(Museum.row("a2i00", ";", 6));
        Museum.due("40", m.x.keep(), 40);
        Museum.due("keeping changes nothing", m.x.count(1), 40);
    }

    private static void undoAheadOfKeep() {
        Museum.says("undo: false: none was KEPT");
        Museum m = new Museum();
        Museum.due("of a new one", m.x.undo(), false);
        m.plan(0, 0, "00");
        m.x.sun(1);
        m.reports("a0i00");
        Museum.due("still none", m.x.undo(), false);
        Museum.due("the sun stays", m.x.count(4), 1);
        Museum.due("the report stays", m.x.count(1), 1);
        m.x.keep();
        Museum.due("one is kept", m.x.undo(), true);
        Museum.due("and stays kept", m.x.undo(), true);
    }

    private static Museum full() {
        Museum m = new Museum();
        for (int p = 0; p < 10; p++) {
            m.plan(p, 0, p + "0");
            m.plan(p, 1, p + "1");
            m.x.choose(p, p % 2);
            m.x.found(p, 9 - p);
        }
        for (int i = 0; i < 40; i++) {
            m.reports((char) ('a' + i % 10) + "" + i + "~" + i % 10 + "w" + (char) ('a' + (i + 1) % 10) + i % 10 + i / 10);
        }
        for (int i = 0; i < 6; i++) {
            m.x.thing(i, 10 + i);
            if (i % 2 == 1) {
                m.x.carry(i, i, 10 * i, 10 * i + 5);
            }
        }
        m.x.sun(1);
        return m;
    }

    private static void dueFull(Museum m) {
        Museum.due("the sun", m.x.count(4), 1);
        Museum.due("reports", m.x.count(1), 40);
        Museum.due("things", m.x.count(6), 63);
        for (int p = 0; p < 10; p++) {
            Museum.due("the version of " + p, m.x.count(10 + p), p % 2);
            Museum.due("found with " + p, m.x.count(30 + p), 9 - p);
        }
        int wrong = 0;
        for (int i = 0; i < 40; i++) {
            int[] parts = {i % 10, i, i % 10, 'w', (i + 1) % 10, 10 * (i / 10) + i % 10};
            for (int what = 0; what < 6; what++) {
                wrong += m.x.report(i, what) == parts[what] ? 0 : 1;
            }
        }
        Museum.due("parts of reports that are otherwise", wrong, 0);
        for (int i = 0; i < 6; i++) {
            Museum.due("thing " + i, m.x.where(i, 95), 10 + i);
        }
    }

    private static void keptAreAll() {
        Museum.says("KEPT: VERSIONS, the SUN, REPORTS, what was FOUND, THINGS; UNDONE: as they were KEPT last");
        Museum m = full();
        Museum.due("keep", m.x.keep(), 40);
        for (int p = 0; p < 10; p++) {
            m.x.choose(p, 1 - p % 2);
            m.x.found(p, p % 3 == 0 ? -1 : 8 - p);
        }
        m.x.sun(0);
        for (int p = 0; p < 10; p++) {
            m.x.gives(p);
        }
        Museum.due("no reports", m.x.count(1), 0);
        m.reports(Museum.row("a9~9wb99", ";", 12));
        for (int i = 0; i < 6; i++) {
            m.x.thing(i, 90 + i);
        }
        Museum.due("undo", m.x.undo(), true);
        dueFull(m);
    }

    private static void nothingElseIsKept() {
        Museum.says("(PLANS, THE TOWN stay), the LAW, THE TRAM and the tape, too");
        Museum m = new Museum();
        m.plan(0, 0, "00");
        m.town("#5555");
        m.law("a1(1=1)");
        m.tram("00:1");
        m.feed("x" + Museum.times(" ", 30));
        m.x.keep();
        Museum.due("the tape is read", m.x.town(1), -1000);
        m.town("#5555;#6666");
        m.plan(0, 0, "11ee");
        m.plan(1, 0, "22");
        m.plan(0, 2, "33");
        m.law("a2(1=1);l3(1=1)");
        m.tram("00:1,11:2,22:3");
        m.feed("#");
        Museum.due("undo", m.x.undo(), true);
        Museum.due("the town", m.x.count(166), 1);
        Museum.due("a plan", m.x.count(40), 2);
        Museum.due("where it is", m.x.at(0, 2), 13);
        Museum.due("who is told", m.x.count(0), 3);
        Museum.due("its versions", m.x.count(20), 0b101);
        Museum.due("the law", m.x.count(2), 2);
        Museum.due("what it says", m.x.shadow(0, 0, 0), 2);
        Museum.due("the tram", m.x.count(5), 3);
        Museum.due("the tape", m.x.count(3), 20);
        Museum.due("what is on it", m.x.town(1), -1001);
        Museum.says("THINGS that were CARRIED");
        m.x.thing(3, 11);
        m.x.carry(3, 0, 0, 1);
        m.x.keep();
        m.x.carry(3, 0, 0, 2);
        Museum.due("further", m.x.where(3, 2), 13);
        m.x.undo();
        Museum.due("as it was kept", m.x.where(3, 2), 12);
        m.x.thing(3, 11);
        m.x.undo();
        Museum.due("carried again", m.x.where(3, 2), 12);
        m.x.thing(4, 11);
        m.x.undo();
        Museum.due("not told then", m.x.count(6), 0b1000);
        Museum.due("not told then", m.x.where(4, 0), -1);
    }

    private static void keptLast() {
        Museum.says("as they were KEPT last");
        Museum m = full();
        m.x.keep();
        m.x.strike(0);
        m.x.sun(0);
        Museum.due("39", m.x.keep(), 39);
        m.x.strike(0);
        Museum.due("undo", m.x.undo(), true);
        Museum.due("39", m.x.count(1), 39);
        Museum.due("the second is first", m.x.report(0, 1), 1);
        Museum.due("the last", m.x.report(38, 1), 39);
        Museum.due("the sun", m.x.count(4), 0);
        m.x.strike(38);
        m.x.choose(5, 0);
        Museum.due("undo again", m.x.undo(), true);
        Museum.due("39", m.x.count(1), 39);
        Museum.due("the last", m.x.report(38, 1), 39);
        Museum.due("the version", m.x.count(15), 1);
        Museum.due("one more fits", m.reports("a0i00"), 40);
        Museum.due("and no further", m.reports("a0i00"), -4000);
        Museum.due("what is kept does not change", m.x.undo(), true);
        Museum.due("39", m.x.count(1), 39);
    }

    private static void toldLater() {
        Museum.says("one told behind keep: VERSION 0, none FOUND, as it was then");
        Museum m = new Museum();
        m.x.keep();
        m.plan(0, 0, "00e");
        m.plan(0, 2, "22ee");
        m.x.choose(0, 2);
        m.x.found(0, 9);
        m.x.undo();
        Museum.due("version", m.x.count(10), 0);
        Museum.due("steps", m.x.count(40), 1);
        Museum.due("found", m.x.count(30), -2);
        Museum.due("told still", m.x.count(20), 0b101);
    }

    private static void check() {
        Museum.says("CHECK: SPOTS in MINUTES 0 to n - 1; n 0 to 96; empty then; NONE: right; else the first that is not so");
        Museum m = new Museum();
        m.plan(0, 0, "009e9n");
        int[] day = new int[96];
        for (int t = 0; t < 96; t++) {
            day[t] = m.x.at(0, t);
        }
        m.feed(day);
        Museum.due("96", m.x.check(0, 96), -1);
        Museum.due("empty", m.x.count(3), 0);
        for (int wrong : new int[] {0, 1, 18, 94, 95}) {
            int[] other = day.clone();
            other[wrong] = 255;
            m.feed(other);
            Museum.due("not so in " + wrong, m.x.check(0, 96), wrong);
            Museum.due("empty", m.x.count(3), 0);
            m.feed(other);
            Museum.due("ahead of " + wrong, m.x.check(0, wrong), -1);
            m.feed(other);
            Museum.due("that one the last", m.x.check(0, wrong + 1), wrong);
            other[95] = 255;
            m.feed(other);
            Museum.due("the first of two", m.x.check(0, 96), wrong);
        }
        Museum.says("n 0");
        Museum.due("of an empty tape", m.x.check(0, 0), -1);
        m.feed(99);
        Museum.due("right", m.x.check(0, 0), -1);
        Museum.due("empty then", m.x.count(3), 0);
        Museum.says("of a PERSON in THE DAY");
        m.plan(0, 1, "99");
        m.x.choose(0, 1);
        m.feed(99, 99);
        Museum.due("the version that is chosen", m.x.check(0, 2), -1);
        m.feed(0, 1);
        Museum.due("not the other one", m.x.check(0, 2), 0);
    }

    private static void checkRefused() {
        Museum.says("-2: no such ones, it has not so many (the tape stays)");
        Museum m = new Museum();
        m.plan(0, 0, "00");
        m.plan(9, 0, "00");
        Museum.due("1 of an empty tape", m.x.check(0, 1), -2);
        m.feed(new int[20]);
        Museum.due("21 of 20", m.x.check(0, 21), -2);
        Museum.due("20 of 20", m.x.check(0, 20), -1);
        m.feed(new int[100]);
        int[][] refused = {{-1, 1}, {1, 1}, {10, 1}, {0, -1}, {0, 97}, {8, 0}, {MOST, 1}, {LEAST, 1}, {0, MOST}, {0, LEAST}};
        for (int[] c : refused) {
            Museum.due("check(" + c[0] + ", " + c[1] + ")", m.x.check(c[0], c[1]), -2);
            Museum.due("the tape stays", m.x.count(3), 100);
        }
        Museum.due("the last person", m.x.check(9, 96), -1);
    }

    private static void count() {
        Museum.says("count: NONE for others");
        Museum m = new Museum();
        for (int what = 0; what <= 6; what++) {
            Museum.due("count(" + what + ")", m.x.count(what), 0);
        }
        for (int what : new int[] {-1, 7, 8, 9, 50, 51, 59, 60, 99, 200, 201, MOST, LEAST, LEAST + 100}) {
            Museum.due("count(" + what + ")", m.x.count(what), -1);
        }
        m = full();
        for (int what : new int[] {-1, 7, 8, 9, 50, 51, 59, 60, 99, 200, 201, MOST, LEAST, LEAST + 100}) {
            Museum.due("count(" + what + ")", m.x.count(what), -1);
        }
        Museum.says("as bits: all");
        Museum.due("told people", m.x.count(0), 1023);
        Museum.due("told things", m.x.count(6), 63);
    }

    private static void countOfPeople() {
        Museum.says("with told PERSON p");
        Museum m = new Museum();
        m.plan(0, 0, "00ee");
        m.plan(9, 0, "00");
        m.plan(9, 1, "00" + Museum.times("9.", 10) + "5.");
        m.plan(9, 2, "00e");
        for (int p = 1; p < 9; p++) {
            for (int tens = 10; tens < 50; tens += 10) {
                Museum.due("count(" + (tens + p) + ")", m.x.count(tens + p), -1);
            }
        }
        int[] whats = {10, 20, 30, 40, 19, 29, 39, 49};
        int[] wants = {0, 1, -2, 2, 0, 7, -2, 0};
        for (int i = 0; i < whats.length; i++) {
            Museum.due("count(" + whats[i] + ")", m.x.count(whats[i]), wants[i]);
        }
        Museum.says("STEPS of its PLAN in THE DAY");
        m.x.choose(9, 1);
        Museum.due("95", m.x.count(49), 95);
        m.x.choose(9, 2);
        Museum.due("1", m.x.count(49), 1);
        Museum.due("the version", m.x.count(19), 2);
        Museum.says("the TICKET FOUND (-2: none)");
        m.x.found(9, 0);
        Museum.due("0", m.x.count(39), 0);
        m.x.found(9, 9);
        Museum.due("9", m.x.count(39), 9);
        m.x.found(9, -1);
        Museum.due("none", m.x.count(39), -2);
        Museum.says("100 + a SPOT (0 plain, 1 wall, 2 canal)");
        m.town("#0000;c9999");
        Museum.due("count(100)", m.x.count(100), 1);
        Museum.due("count(199)", m.x.count(199), 2);
        Museum.due("count(150)", m.x.count(150), 0);
    }
}
