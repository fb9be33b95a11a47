import java.util.function.ToLongFunction;

/**
 * "A call that is refused (NONE, false) changes nothing but the tape, where it is told": two museums are made alike, one
 * of them refuses calls, and then both must answer alike.
 */
public final class RefusedTest {
    private static final int MOST = Integer.MAX_VALUE;
    private static final int LEAST = Integer.MIN_VALUE;

    public static void main(String[] args) {
        texts();
        changes();
        changesAgain();
        questions();
        moreQuestions();
        faults();
        tooFewBytes();
        fullTape();
        Museum.end("RefusedTest");
    }

    private static Museum filled() {
        Museum m = new Museum();
        m.town("#2022;c7777;.2121");
        m.plan(0, 0, "003e2n");
        m.plan(0, 2, "013e");
        m.plan(1, 0, "50w.n");
        m.plan(4, 0, "55");
        m.law("v4(1=1);h5(p<9);at/12(1=1);lq(u=1);r6+p(1=1)");
        m.reports("a1sb;b2~3oa;e4ha;a5i20;b1wa30;e50f40;a3i77");
        m.tram("00:0,50:2,55:9");
        m.x.choose(0, 2);
        m.x.sun(1);
        m.x.found(4, 1);
        m.x.thing(2, 55);
        m.x.carry(2, 4, 3, 8);
        m.x.keep();
        m.x.strike(6);
        m.x.choose(0, 0);
        m.x.found(1, 0);
        return m;
    }

    /** What a museum answers now, and once more when it is undone; some 200 calls. */
    private static String answers(DayMuseum x) {
        StringBuilder all = new StringBuilder();
        for (int round = 0; round < 2; round++) {
            for (int what = 0; what <= 6; what++) {
                all.append(x.count(what)).append(' ');
            }
            for (int p : new int[] {0, 1, 4, 5}) {
                for (int tens = 10; tens < 50; tens += 10) {
                    all.append(x.count(tens + p)).append(' ');
                }
                all.append(x.at(p, 4)).append(' ').append(x.sees(p, 4)).append(' ').append(x.hears(p, 4)).append(' ');
            }
            all.append(x.count(102)).append(x.count(112)).append(x.count(177)).append(' ');
            for (int i = 0; i < x.count(1); i++) {
                all.append(x.report(i, 1)).append(' ').append(x.report(i, 5)).append(' ').append(x.holds(i)).append(' ');
            }
            all.append(x.shadow(30, 1, 0)).append(' ').append(x.shadow(30, 1, 1)).append(' ').append(x.told(1)).append(' ');
            all.append(x.best(2)).append(' ').append(x.best(10)).append(' ').append(x.struck()).append(' ');
            all.append(x.quarrel(1)).append(' ').append(x.ask(1)).append(' ').append(x.enough(1)).append(' ');
            all.append(x.tickets(1)).append(' ').append(x.mayHave(1)).append(' ').append(x.where(2, 8)).append(' ');
            all.append(x.where(3, 8)).append(' ').append(x.unseen(4, 0)).append(' ').append(x.blind(0)).append('\n');
            all.append(x.undo()).append(' ');
        }
        return all.toString();
    }

    /** All calls must have the answer, and leave the museum as it was. */
    @SafeVarargs
    private static void refuse(String of, long want, ToLongFunction<DayMuseum>... calls) {
        Museum one = filled();
        for (int i = 0; i < calls.length; i++) {
            Museum.due(of + ", call " + i, calls[i].applyAsLong(one.x), want);
        }
        Museum.due(of + ": what it answers then", answers(one.x), answers(filled().x));
    }

    private static long bit(boolean answer) {
        return answer ? 1 : 0;
    }

    private static void texts() {
        Museum.says("A call that is refused (NONE) changes nothing: of texts there are none on an empty tape");
        refuse("town", -1, x -> x.town(0), x -> x.town(1), x -> x.town(161), x -> x.town(-1), x -> x.town(MOST), x -> x.town(LEAST));
        refuse("plan", -1, x -> x.plan(0, 0, 0), x -> x.plan(0, 0, 1), x -> x.plan(5, 0, 2), x -> x.plan(5, 1, 2), x -> x.plan(0, 3, 2),
            x -> x.plan(0, -1, 2), x -> x.plan(10, 0, 2), x -> x.plan(-1, 0, 2), x -> x.plan(0, 0, 91), x -> x.plan(LEAST, LEAST, LEAST));
        refuse("law", -1, x -> x.law(0), x -> x.law(1), x -> x.law(241), x -> x.law(-1), x -> x.law(MOST), x -> x.law(LEAST));
        refuse("reports", -1, x -> x.reports(0), x -> x.reports(1), x -> x.reports(201), x -> x.reports(MOST), x -> x.reports(LEAST));
        refuse("tram", -1, x -> x.tram(0), x -> x.tram(1), x -> x.tram(91), x -> x.tram(-1), x -> x.tram(MOST), x -> x.tram(LEAST));
        refuse("halves", -1, x -> x.halves(0, 0, 20), x -> x.halves(1, 0, 20), x -> x.halves(11, 0, 20), x -> x.halves(1, 96, 0));
        refuse("sure", -1, x -> x.sure(5, 0, 0), x -> x.sure(5, 1, 0), x -> x.sure(11, 1, 0), x -> x.sure(5, 9, 0), x -> x.sure(5, 1, 2));
        refuse("check", -2, x -> x.check(0, 1), x -> x.check(5, 0), x -> x.check(0, 97), x -> x.check(0, -1), x -> x.check(10, 0));
    }

    private static void changes() {
        Museum.says("A call that is refused (false, NONE) changes nothing");
        refuse("strike", 0, x -> bit(x.strike(-1)), x -> bit(x.strike(6)), x -> bit(x.strike(40)), x -> bit(x.strike(MOST)), x -> bit(x.strike(LEAST)));
        refuse("gives", -1, x -> x.gives(-1), x -> x.gives(10), x -> x.gives(MOST), x -> x.gives(LEAST));
        refuse("choose", 0, x -> bit(x.choose(0, 1)), x -> bit(x.choose(0, 3)), x -> bit(x.choose(0, -1)), x -> bit(x.choose(5, 0)),
            x -> bit(x.choose(-1, 0)), x -> bit(x.choose(10, 0)), x -> bit(x.choose(1, 2)), x -> bit(x.choose(MOST, LEAST)));
        refuse("sun", 0, x -> bit(x.sun(-1)), x -> bit(x.sun(2)), x -> bit(x.sun(MOST)), x -> bit(x.sun(LEAST)));
        refuse("found", 0, x -> bit(x.found(5, 0)), x -> bit(x.found(5, 1)), x -> bit(x.found(0, 10)), x -> bit(x.found(0, -2)),
            x -> bit(x.found(-1, 1)), x -> bit(x.found(10, 1)), x -> bit(x.found(4, 10)), x -> bit(x.found(4, -2)));
    }

    private static void changesAgain() {
        refuse("thing", 0, x -> bit(x.thing(6, 0)), x -> bit(x.thing(-1, 0)), x -> bit(x.thing(2, 100)), x -> bit(x.thing(2, -1)),
            x -> bit(x.thing(3, 100)), x -> bit(x.thing(3, -1)), x -> bit(x.thing(MOST, 0)), x -> bit(x.thing(0, LEAST)));
        refuse("carry", 0, x -> bit(x.carry(3, 0, 0, 1)), x -> bit(x.carry(2, 5, 0, 1)), x -> bit(x.carry(2, 0, 5, 4)),
            x -> bit(x.carry(2, 4, 3, 96)), x -> bit(x.carry(2, 4, -1, 8)), x -> bit(x.carry(6, 4, 0, 1)), x -> bit(x.carry(-1, 4, 0, 1)));
        Museum m = new Museum();
        m.plan(0, 0, "00");
        m.x.sun(1);
        Museum.due("undo", m.x.undo(), false);
        Museum.due("the sun stays", m.x.count(4), 1);
    }

    private static void questions() {
        Museum.says("Questions change nothing, refused or not");
        refuse("of reports and people", -1, x -> x.report(6, 0), x -> x.report(0, 6), x -> x.at(5, 0), x -> x.at(0, 96), x -> x.sees(5, 0),
            x -> x.sees(0, 96), x -> x.hears(5, 0), x -> x.hears(0, -1), x -> x.shadow(96, 0, 0), x -> x.holds(6), x -> x.told(2));
        refuse("of days", -1, x -> x.best(4), x -> x.best(15), x -> x.quarrel(5), x -> x.ask(4), x -> x.enough(2));
        refuse("of ways", -1, x -> x.between(2, 0, 0, 1), x -> x.between(0, 0, 0, 21), x -> x.through(0, 0, 0, 1, 100, 0),
            x -> x.maybe(0, 0, 0, 1, 2), x -> x.met(0, 1, 0, 0), x -> x.paged(2, 0, 0));
        refuse("of the rest", -1, x -> x.liar(0), x -> x.falls(8, 0, 0, 0), x -> x.argued(2), x -> x.tickets(3), x -> x.mayHave(9),
            x -> x.word(5, 0, 1), x -> x.knows(0, 0, 5), x -> x.where(3, 0), x -> x.unseen(96, 0), x -> x.never(1, 0, 0), x -> x.blind(2),
            x -> x.count(7), x -> x.count(200));
    }

    private static void moreQuestions() {
        refuse("that are answered", 0, x -> 0 * x.best(0), x -> 0 * x.struck(), x -> 0 * x.quarrel(0), x -> 0 * x.ask(0), x -> 0 * x.enough(0),
            x -> 0 * x.between(0, 0, 44, 20), x -> 0 * x.through(0, 0, 44, 20, 1, 3), x -> 0 * x.maybe(0, 0, 44, 20, 7), x -> 0 * x.met(0, 0, 44, 9),
            x -> 0 * x.paged(99, 0, 0), x -> 0 * x.word(0, 0, 95), x -> 0 * x.knows(0, 0, 4), x -> 0 * x.never(0, 95, 0), x -> 0 * x.blind(44),
            x -> 0 * x.falls(0, 0, 1, 1), x -> 0 * x.argued(1), x -> 0 * x.liar(5), x -> 0 * x.tickets(14), x -> 0 * x.mayHave(0));
    }

    /** A text that is put onto the tape and read: a fault empties the tape and changes nothing else. */
    private static long fed(DayMuseum x, String text, ToLongFunction<DayMuseum> call) {
        Museum m = new Museum();
        m.x = x;
        m.feed(text);
        return call.applyAsLong(x);
    }

    private static void faults() {
        Museum.says("a FAULT: the one before stays, none comes; empty then");
        refuse("town", -1006, x -> fed(x, "#0099;", y -> y.town(6)), x -> fed(x, "c5555;x", y -> y.town(7)));
        refuse("plan", -1003, x -> fed(x, "99ex", y -> y.plan(0, 0, 4)), x -> fed(x, "99ex", y -> y.plan(5, 0, 4)), x -> fed(x, "99e", y -> y.plan(0, 2, 4)));
        refuse("plan on a wall", -3000, x -> fed(x, "20", y -> y.plan(0, 0, 2)), x -> fed(x, "77e", y -> y.plan(5, 0, 3)));
        refuse("law", -1008, x -> fed(x, "v0(1=1);", y -> y.law(8)), x -> fed(x, "h0(1=1);b", y -> y.law(9)));
        refuse("reports", -7005, x -> fed(x, "a0sb;d0sb", y -> y.reports(9)), x -> fed(x, "b0sa;f", y -> y.reports(6)));
        refuse("tram", -7008, x -> fed(x, "99:5,00:5", y -> y.tram(9)), x -> fed(x, "99:5,00:4", y -> y.tram(9)));
        refuse("halves", -2, x -> fed(x, "\0\0\u00ff", y -> y.halves(1, 0, 20)), x -> fed(x, "\2\0\0", y -> y.halves(1, 0, 20)));
        refuse("halves, no such place", -4, x -> fed(x, "\0\0\0", y -> y.halves(1, 0, 1)), x -> fed(x, "\0\0\0", y -> y.halves(1, 0, -1)));
        refuse("sure", -3, x -> fed(x, "\5", y -> y.sure(5, 1, 0)), x -> fed(x, "\u00ff", y -> y.sure(5, 1, 0)));
    }

    /** Each call that reads leaves the tape when it refuses: not a byte of it is gone, or stands elsewhere. */
    private static void tooFewBytes() {
        Museum.says("NONE: it has not so many (the tape stays)");
        Museum m = new Museum();
        m.plan(0, 0, "00");
        m.feed("l5(1=1)");
        long refused = m.x.town(21) + m.x.plan(0, 0, 21) + m.x.law(21) + m.x.reports(21) + m.x.tram(21) + m.x.halves(7, 0, 20)
            + m.x.town(161) + m.x.plan(0, 0, 91) + m.x.law(241) + m.x.reports(201) + m.x.tram(91) + m.x.halves(11, 0, 20)
            + m.x.sure(5, 9, 0) + m.x.sure(11, 1, 0) + m.x.halves(1, -1, 20) + m.x.plan(1, 1, 2) + m.x.plan(10, 0, 2);
        Museum.due("17 times NONE", refused, -17);
        Museum.due("check", m.x.check(0, 21) + m.x.check(0, 97) + m.x.check(1, 1), -6);
        Museum.due("the tape stays", m.x.count(3), 20);
        m.feed("                        ");
        Museum.due("and what comes stands behind it", m.x.count(3), 60);
        Museum.due("its first bytes", m.x.law(7), 1);
        Museum.due("what they say", m.x.shadow(0, 0, 1), 5);
    }

    private static void fullTape() {
        Museum.says("feed: NONE if that would be more than 260");
        Museum one = filled();
        Museum other = filled();
        for (int i = 0; i < 13; i++) {
            one.x.feed(0, 0, 0, 0, 0);
            other.x.feed(0, 0, 0, 0, 0);
        }
        Museum.due("feed", one.x.feed(-1, -1, -1, -1, -1), -1);
        Museum.due("what it answers then", answers(one.x), answers(other.x));
        Museum.due("its bytes", one.x.check(0, 96), other.x.check(0, 96));
    }
}
