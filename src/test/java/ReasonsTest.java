/** "Of several reasons of a call that told last in its line is looked at first, then the others as they stand." */
public final class ReasonsTest {
    public static void main(String[] args) {
        texts();
        days();
        questions();
        tram();
        bytes();
        Museum.end("ReasonsTest");
    }

    private static void texts() {
        Museum.says("town, law, reports, tram: a FAULT; NONE: no such n, it has not so many");
        Museum m = new Museum();
        m.feed("x");
        Museum.due("town: not so many, and faulty", m.x.town(21), -1);
        Museum.due("law: not so many, and faulty", m.x.law(21), -1);
        Museum.due("reports: not so many, and faulty", m.x.reports(21), -1);
        Museum.due("tram: not so many, and faulty", m.x.tram(21), -1);
        Museum.due("town: no such n", m.x.town(161), -1);
        Museum.due("law: no such n", m.x.law(0), -1);
        Museum.due("reports: no such n", m.x.reports(201), -1);
        Museum.due("tram: no such n", m.x.tram(91), -1);
        Museum.says("plan: a FAULT; NONE: no such ones, it has not so many");
        Museum.due("no such person, and faulty", m.x.plan(10, 0, 1), -1);
        Museum.due("no such version, and faulty", m.x.plan(0, 3, 1), -1);
        Museum.due("not told, and faulty", m.x.plan(0, 1, 1), -1);
        Museum.due("not so many, and faulty", m.x.plan(0, 0, 21), -1);
        Museum.due("the tape stays", m.x.count(3), 20);
        Museum.due("faulty alone", m.x.plan(0, 0, 1), -1000);
    }

    private static void days() {
        Museum.says("best, quarrel, ask, enough: -3: TOO MANY; NONE: no such what");
        Museum m = new Museum();
        for (int p = 0; p < 10; p++) {
            m.plan(p, 0, "00");
            if (p < 9) {
                m.plan(p, 1, "00");
                m.plan(p, 2, "00");
            }
        }
        int[] best = {-1, 4, 9, 20, 99};
        for (int what : best) {
            Museum.due("best(" + what + ")", m.x.best(what), -1);
        }
        Museum.due("best(0)", m.x.best(0), -3);
        Museum.due("best(19)", m.x.best(19), -3);
        Museum.due("quarrel(5)", m.x.quarrel(5), -1);
        Museum.due("quarrel(-1)", m.x.quarrel(-1), -1);
        Museum.due("quarrel(4)", m.x.quarrel(4), -3);
        Museum.due("ask(4)", m.x.ask(4), -1);
        Museum.due("ask(-1)", m.x.ask(-1), -1);
        Museum.due("ask(3)", m.x.ask(3), -3);
        Museum.due("enough(2)", m.x.enough(2), -1);
        Museum.due("enough(-1)", m.x.enough(-1), -1);
        Museum.due("enough(1)", m.x.enough(1), -3);
        Museum.due("struck", m.x.struck(), -3);
        m = new Museum();
        for (int p = 0; p < 9; p++) {
            m.plan(p, 0, "00");
            m.plan(p, 1, "00");
            m.plan(p, 2, "00");
        }
        Museum.due("one that is not told, and too many", m.x.best(19), -1);
    }

    private static void questions() {
        Museum.says("told: -2: all do; NONE: no such what");
        Museum m = new Museum();
        Museum.due("told(1)", m.x.told(1), -2);
        Museum.due("told(2)", m.x.told(2), -1);
        Museum.says("ask: -2: nobody is told; NONE: no such what");
        Museum.due("ask(4)", m.x.ask(4), -1);
        Museum.says("met: -2: there is no way; NONE: no such ones");
        Museum.due("no way, b ahead of a", m.x.met(0, 5, 99, 4), -1);
        Museum.due("no way", m.x.met(0, 5, 99, 5), -2);
        Museum.says("between, through, maybe: 0: none; -1: no such ones");
        Museum.due("no way, no such minute", m.x.through(0, 5, 99, 5, 0, 6), -1);
        Museum.due("no way, no such spot", m.x.through(0, 5, 99, 5, 100, 5), -1);
        Museum.due("no way, no such minute", m.x.maybe(0, 5, 99, 5, 6), -1);
        Museum.due("no way", m.x.maybe(0, 5, 99, 5, 5), 0);
        Museum.says("paged: -2: nobody; NONE: no such ones, it is not plain");
        Museum.due("nobody, no such what", m.x.paged(0, 0, 2), -1);
        Museum.due("nobody, no such spot", m.x.paged(100, 0, 0), -1);
        Museum.due("nobody", m.x.paged(0, 0, 0), -2);
        m.town("#0000");
        Museum.due("nobody, not plain", m.x.paged(0, 0, 0), -1);
        Museum.says("falls: -2: none; NONE: no such ones");
        Museum.due("falls never, no such what", m.x.falls(7, 9, 0, 3), -1);
        Museum.due("falls never, no such sun", m.x.falls(7, 9, 2, 1), -1);
        Museum.due("falls never", m.x.falls(7, 9, 0, 1), -2);
        Museum.says("unseen, never: -2: none; NONE: no such ones");
        m.town("#0099");
        Museum.due("none, no such minute", m.x.unseen(96, 1), -1);
        Museum.due("none, no such what", m.x.unseen(0, 2), -1);
        Museum.due("none", m.x.unseen(0, 1), -2);
        Museum.due("none, the other one ahead", m.x.never(1, 0, 1), -1);
        Museum.due("none", m.x.never(0, 1, 1), -2);
        Museum.says("blind: NONE: no such one, a wall");
        Museum.due("a wall", m.x.blind(0), -1);
        Museum.says("knows: (p itself: t); -2: never; NONE: no such ones");
        Museum.due("itself, not told", m.x.knows(3, 0, 3), -1);
        m.town(".0000");
        m.plan(3, 0, "00");
        Museum.due("itself, no such minute", m.x.knows(3, 96, 3), -1);
        Museum.due("never, not told", m.x.knows(3, 0, 4), -1);
        Museum.says("report: (-2: none); NONE for others");
        Museum.due("no such report", m.x.report(0, 4), -1);
    }

    private static void tram() {
        Museum.says("tickets: (-2: never); NONE: no such ones");
        Museum m = new Museum();
        Museum.due("not told", m.x.tickets(10), -1);
        m.plan(0, 0, "00");
        Museum.due("never", m.x.tickets(10), -2);
        Museum.says("mayHave: 0: there are no ROWS; NONE: it was not sold");
        m.x.found(0, 3);
        Museum.due("no rows, not sold", m.x.mayHave(3), -1);
        m.tram("00:5");
        Museum.due("no rows, sold", m.x.mayHave(0), 0);
        Museum.due("no rows, not sold", m.x.mayHave(1), -1);
        Museum.says("count: (-2: none); NONE for others");
        Museum.due("not told", m.x.count(31), -1);
    }

    private static void bytes() {
        Museum.says("halves: -2: a byte out of bounds; -4: no such place; NONE: no such ones, it has not so many");
        Museum m = new Museum();
        m.feed(2, 0, 0);
        Museum.due("all three", m.x.halves(1, 96, 5), -1);
        Museum.due("all three", m.x.halves(11, 0, 5), -1);
        Museum.due("all three", m.x.halves(7, 0, 5), -1);
        Museum.due("the first two", m.x.halves(1, 0, 5), -2);
        m.feed(0, 0, 0);
        Museum.due("the second", m.x.halves(1, 0, 5), -4);
        Museum.says("sure: -2: it can't be said so at all; -3: a PERSON that is not told (ahead of -2); NONE");
        m.plan(0, 0, "00");
        m.feed(0, 1);
        Museum.due("all three", m.x.sure(11, 2, 0), -1);
        Museum.due("all three", m.x.sure(10, 2, 2), -1);
        Museum.due("all three", m.x.sure(10, 21, 0), -1);
        Museum.due("the first two", m.x.sure(10, 2, 0), -3);
        m.feed(0, 1);
        Museum.due("the first", m.x.sure(10, 1, 0), -2);
        Museum.says("check: NONE: right; -2: no such ones, it has not so many");
        m.feed(1);
        Museum.due("not right, too many", m.x.check(0, 97), -2);
        Museum.due("not right, not so many", m.x.check(0, 21), -2);
        Museum.due("not right, not told", m.x.check(1, 1), -2);
        Museum.due("not right", m.x.check(0, 1), 0);
    }
}
