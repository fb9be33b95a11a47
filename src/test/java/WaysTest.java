/** Promises 23 (between), 24 (through), 25 (maybe), 26 (met) and 36 (paged). */
public final class WaysTest {
    public static void main(String[] args) {
        between();
        longWays();
        through();
        wrong();
        met();
        paged();
        Museum.end("WaysTest");
    }

    private static void between() {
        Museum m = new Museum();
        Museum.due("no time at all", m.x.between(44, 5, 44, 5), 1);
        Museum.due("no time for a step", m.x.between(44, 5, 45, 5), 0);
        Museum.due("one step", m.x.between(44, 5, 45, 6), 1);
        Museum.due("staying", m.x.between(44, 5, 44, 6), 1);
        Museum.due("two minutes back: stays, or a step in 4 ways and back", m.x.between(44, 5, 44, 7), 5);
        Museum.due("across in two", m.x.between(44, 0, 55, 2), 2);
        Museum.due("across in one", m.x.between(44, 0, 55, 1), 0);
        Museum.due("in a corner", m.x.between(0, 5, 0, 7), 3);
        Museum.due("no way round the edge", m.x.between(9, 0, 10, 1), 0);
        Museum.due("too far", m.x.between(0, 0, 3, 2), 0);
        Museum.due("straight", m.x.between(0, 0, 3, 3), 1);
        Museum.due("with one stay at four places", m.x.between(0, 0, 3, 4), 4);
        m.town("#0101;c1111;#9999");
        Museum.due("a wall and a canal", m.x.between(0, 0, 20, 4), 0);
        Museum.due("in a corridor", m.x.between(0, 5, 0, 7), 2);
        Museum.due("from a wall", m.x.between(10, 5, 0, 7), -1);
        Museum.due("to a canal", m.x.between(0, 5, 11, 7), -1);
    }

    private static void longWays() {
        Museum m = new Museum();
        // in a town of two spots each minute has two ways on
        m.town("#0099;.0010");
        Museum.due("20 minutes", m.x.between(0, 0, 0, 20), 1 << 19);
        Museum.due("20 minutes late", m.x.between(0, 75, 1, 95), 1 << 19);
        Museum.due("21 minutes", m.x.between(0, 0, 0, 21), -1);
        m.town("#0099;.0022;#1111");
        Museum.due("a ring of eight, one minute", m.x.between(0, 0, 1, 1), 1);
        Museum.due("a ring of eight, four minutes to the other side", m.x.between(0, 0, 22, 4), 2);
        Museum.due("a ring of eight, five: one stay at five places of two ways", m.x.between(0, 0, 22, 5), 10);
        m.town(".0000");
        Museum.due("three minutes to a neighbour", m.x.between(44, 0, 45, 3), 12);
        long all = 0;
        for (int spot = 0; spot < 100; spot++) {
            all += m.x.between(44, 0, spot, 4);
        }
        Museum.due("all ways of four minutes that reach no edge", all, 5 * 5 * 5 * 5);
        Museum.due("more than an int holds", m.x.between(44, 0, 44, 20) > 1L << 40, true);
    }

    private static void through() {
        Museum m = new Museum();
        Museum.due("at its start", m.x.through(44, 5, 46, 8, 44, 5), 3);
        Museum.due("not at its start", m.x.through(44, 5, 46, 8, 45, 5), 0);
        Museum.due("at its end", m.x.through(44, 5, 46, 8, 46, 8), 3);
        Museum.due("one behind", m.x.through(44, 5, 46, 8, 45, 6), 2);
        Museum.due("stayed", m.x.through(44, 5, 46, 8, 44, 6), 1);
        Museum.due("beside", m.x.through(44, 5, 46, 8, 54, 6), 0);
        Museum.due("on how many spots, at the start", m.x.maybe(44, 5, 46, 8, 5), 1);
        Museum.due("on how many spots, one behind", m.x.maybe(44, 5, 46, 8, 6), 2);
        Museum.due("on how many spots, at the end", m.x.maybe(44, 5, 46, 8, 8), 1);
        Museum.due("there and back", m.x.maybe(44, 0, 44, 2, 1), 5);
        Museum.due("there and back in a corner", m.x.maybe(0, 0, 0, 2, 1), 3);
        Museum.due("no way", m.x.through(44, 5, 49, 6, 45, 6), 0);
        Museum.due("no way", m.x.maybe(44, 5, 49, 6, 6), 0);
        Museum.due("no time", m.x.through(44, 5, 44, 5, 44, 5), 1);
        Museum.due("no time", m.x.maybe(44, 5, 44, 5, 5), 1);
        m.town("#4545;c5454");
        Museum.due("through a wall that is a spot still", m.x.through(44, 0, 44, 2, 54, 1), 0);
        Museum.due("through a canal", m.x.through(44, 0, 44, 2, 45, 1), 0);
        Museum.due("a wall and a canal are no spots to be on", m.x.maybe(44, 0, 44, 2, 1), 3);
    }

    private static void wrong() {
        Museum m = new Museum();
        m.town("#9999;c8888");
        m.plan(0, 0, "00");
        int[][] calls = {
            {-1, 0, 0, 5}, {100, 0, 0, 5}, {0, 0, -1, 5}, {0, 0, 100, 5}, {99, 0, 0, 5}, {0, 0, 99, 5}, {88, 0, 0, 5},
            {0, 0, 88, 5}, {0, -1, 0, 5}, {0, 91, 0, 96}, {0, 6, 0, 5}, {0, 0, 0, 21}, {0, 96, 0, 96},
            {Integer.MAX_VALUE, 0, 0, 5}, {0, Integer.MIN_VALUE, 0, Integer.MAX_VALUE}, {0, Integer.MIN_VALUE, 0, 5},
        };
        for (int[] c : calls) {
            String of = c[0] + ", " + c[1] + ", " + c[2] + ", " + c[3];
            Museum.due("between " + of, m.x.between(c[0], c[1], c[2], c[3]), -1);
            Museum.due("through " + of, m.x.through(c[0], c[1], c[2], c[3], 0, c[1]), -1);
            Museum.due("maybe " + of, m.x.maybe(c[0], c[1], c[2], c[3], c[1]), -1);
            Museum.due("met " + of, m.x.met(c[0], c[1], c[2], c[3]), -1);
        }
        Museum.due("ahead of a", m.x.through(0, 5, 0, 7, 0, 4), -1);
        Museum.due("behind b", m.x.through(0, 5, 0, 7, 0, 8), -1);
        Museum.due("spot 100", m.x.through(0, 5, 0, 7, 100, 6), -1);
        Museum.due("spot -1", m.x.through(0, 5, 0, 7, -1, 6), -1);
        Museum.due("ahead of a", m.x.maybe(0, 5, 0, 7, 4), -1);
        Museum.due("behind b", m.x.maybe(0, 5, 0, 7, 8), -1);
    }

    private static void met() {
        Museum m = new Museum();
        Museum.due("nobody", m.x.met(0, 0, 0, 3), 0);
        Museum.due("no way", m.x.met(0, 0, 9, 3), -2);
        m.plan(0, 0, "88");
        m.plan(9, 0, "98");
        Museum.due("the lowest person", m.x.met(78, 0, 98, 2), 1);
        Museum.due("the highest person", m.x.met(78, 0, 89, 2), 0b1000000000);
        m.plan(2, 0, "10");
        m.plan(5, 0, "309w");
        m.plan(6, 0, "00.5n");
        // f comes towards it, and they pass one another between two minutes
        Museum.due("one that stands where it must go, one at its start", m.x.met(0, 0, 2, 2), 0b1000100);
        Museum.due("with two minutes more it may go round, but not round its start", m.x.met(0, 0, 2, 4), 0b1000000);
        Museum.due("where it ends", m.x.met(30, 0, 1, 5), 0b100);
        Museum.due("where f is in its first minute", m.x.met(0, 3, 12, 6), 0b100000);
        m.town("#0199;.0000");
        m.plan(3, 0, "904.9w");
        Museum.due("in a lane, too, they may pass between two minutes", m.x.met(5, 0, 8, 12), 0);
        Museum.due("no way through", m.x.met(0, 0, 2, 1), -2);
        m.town(".0000");
        m.plan(2, 1, "99");
        m.x.choose(2, 1);
        Museum.due("by the day that is chosen", m.x.met(30, 0, 1, 5), 0);
    }

    private static void paged() {
        Museum m = new Museum();
        Museum.due("nobody is told: who", m.x.paged(0, 0, 0), -2);
        Museum.due("nobody is told: how many", m.x.paged(0, 0, 1), -2);
        m.plan(1, 0, "30e");
        m.plan(4, 0, "04");
        m.plan(5, 0, "03n");
        Museum.due("of like ones the lowest", m.x.paged(0, 0, 0), 1);
        Museum.due("steps", m.x.paged(0, 0, 1), 3);
        Museum.due("a minute later", m.x.paged(0, 1, 0), 1);
        Museum.due("four steps", m.x.paged(0, 1, 1), 4);
        Museum.due("where one is", m.x.paged(30, 0, 1), 0);
        Museum.due("where one is: who", m.x.paged(30, 0, 0), 5);
        m.town("#1010;c1111");
        Museum.due("round a wall and a canal it is another one", m.x.paged(0, 0, 0), 5);
        Museum.due("three steps", m.x.paged(0, 0, 1), 3);
        Museum.due("a wall", m.x.paged(1, 0, 0), -1);
        Museum.due("a canal", m.x.paged(11, 0, 0), -1);
        Museum.due("spot 100", m.x.paged(100, 0, 0), -1);
        Museum.due("spot -1", m.x.paged(-1, 0, 0), -1);
        Museum.due("minute 96", m.x.paged(0, 96, 0), -1);
        Museum.due("minute -1", m.x.paged(0, -1, 0), -1);
        Museum.due("what 2", m.x.paged(0, 0, 2), -1);
        Museum.due("what -1", m.x.paged(0, 0, -1), -1);
        m.town("#1010;c0101;#9999");
        Museum.due("nobody can come", m.x.paged(0, 0, 0), -2);
        Museum.due("nobody can come", m.x.paged(0, 0, 1), -2);
        m.town("#0399;.5599");
        Museum.due("out of a wall one may step", m.x.paged(20, 0, 0), 5);
        Museum.due("out of a wall", m.x.paged(20, 0, 1), 1);
        Museum.due("out of a wall in a wall one may not", m.x.paged(55, 0, 0), -2);
        m.plan(0, 0, "01");
        Museum.due("the lowest person", m.x.paged(10, 0, 0), 0);
        Museum.due("the lowest person", m.x.paged(10, 0, 1), 0);
        m = new Museum();
        String[] beside = {"54", "45", "34", "43"};
        for (int p = 0; p < 4; p++) {
            m.plan(p, 0, "44");
            m.town("#0099;." + beside[p] + beside[p]);
            Museum.due("off a wall to " + beside[p], m.x.paged(10 * (beside[p].charAt(1) - '0') + beside[p].charAt(0) - '0', 0, 1), 1);
            m.town(".0000");
        }
    }
}
