/** Edges of the tape, of a new object and of what holds for every call: promises 1 and 2. */
public final class TapeEdgeTest {
    private static final String LAW = "l5(1=1)";

    public static void main(String[] args) {
        newObject();
        room();
        highestFirst();
        firstBytes();
        ownMemory();
        manyCalls();
        Museum.end("TapeEdgeTest");
    }

    private static void newObject() {
        DayMuseum x = new DayMuseum();
        Museum.says("A plain TOWN, no PEOPLE, LAW, REPORTS");
        Museum.due("between, over all of the town", x.between(0, 0, 99, 18) > 0, true);
        Museum.due("count(0)", x.count(0), 0);
        Museum.due("count(1)", x.count(1), 0);
        Museum.due("count(2)", x.count(2), 0);
        Museum.due("count(3)", x.count(3), 0);
        Museum.due("report(0, 0)", x.report(0, 0), -1);
        Museum.due("holds(0)", x.holds(0), -1);
        Museum.due("liar(0)", x.liar(0), -1);
        Museum.due("strike(0)", x.strike(0), false);
        Museum.due("gives(0)", x.gives(0), 0);
        Museum.due("count(100)", x.count(100), 0);
        Museum.due("count(199)", x.count(199), 0);
        Museum.says("the SUN (0 at first)");
        Museum.due("count(4)", x.count(4), 0);
        Museum.says("A TRAM: none at first");
        Museum.due("count(5)", x.count(5), 0);
        Museum.due("tickets(0)", x.tickets(0), 0);
        Museum.due("mayHave(0)", x.mayHave(0), -1);
        Museum.says("THINGS: told or not");
        Museum.due("count(6)", x.count(6), 0);
        Museum.due("where(0, 0)", x.where(0, 0), -1);
        Museum.says("false: none was KEPT");
        Museum.due("undo()", x.undo(), false);
    }

    private static void room() {
        Museum.says("how many it has; NONE if that would be more than 260");
        Museum m = new Museum();
        m.feed(LAW);
        for (int i = 2; i <= 13; i++) {
            Museum.due("feed " + i, m.x.feed(0, 0, 0, 0, 0), 20 * i);
        }
        Museum.due("feed 14", m.x.feed(-1, -1, -1, -1, -1), -1);
        Museum.due("feed 15", m.x.feed(0, 0, 0, 0, 0), -1);
        Museum.due("count(3)", m.x.count(3), 260);
        Museum.says("A call that is refused changes nothing");
        Museum.due("the first bytes stay", m.x.law(LAW.length()), 1);
        Museum.due("emptied", m.x.count(3), 0);
        Museum.says("Twenty bytes come behind the tape");
        Museum.due("on an empty tape again", m.x.feed(0, 0, 0, 0, 0), 20);
        Museum.due("and behind them", m.x.feed(0, 0, 0, 0, 0), 40);
    }

    private static void highestFirst() {
        Museum.says("Twenty bytes, the highest of each int first");
        for (int word = 0; word < 5; word++) {
            Museum m = new Museum();
            m.plan(0, 0, "009e8n");
            int[] w = new int[5];
            for (int i = 0; i < 5; i++) {
                w[i] = spots(m, 4 * i);
            }
            Museum.due("20 bytes", m.x.feed(w[0], w[1], w[2], w[3], w[4]), 20);
            Museum.due("all 20 in their order", m.x.check(0, 20), -1);
            w[word] ^= 0xff;
            m.x.feed(w[0], w[1], w[2], w[3], w[4]);
            Museum.due("the lowest of int " + word + " comes fourth", m.x.check(0, 20), 4 * word + 3);
            w[word] ^= 0x010000ff;
            m.x.feed(w[0], w[1], w[2], w[3], w[4]);
            Museum.due("the highest of int " + word + " comes first", m.x.check(0, 20), 4 * word);
        }
        Museum m = new Museum();
        m.plan(0, 0, "00");
        Museum.due("the least int", m.x.feed(Integer.MIN_VALUE, 0, 0, 0, 0), 20);
        Museum.due("is 128 first", m.x.check(0, 4), 0);
        m.x.feed(Integer.MAX_VALUE, -1, 0, 0, 0);
        Museum.due("255 is no person", m.x.sure(5, 2, 0), -3);
    }

    private static int spots(Museum m, int t) {
        return m.x.at(0, t) << 24 | m.x.at(0, t + 1) << 16 | m.x.at(0, t + 2) << 8 | m.x.at(0, t + 3);
    }

    private static void firstBytes() {
        Museum.says("by the first n bytes of the tape; empty then");
        Museum m = new Museum();
        m.feed("#0000;#1111;#2222");
        m.feed("c3333");
        Museum.due("40 bytes", m.x.count(3), 40);
        Museum.due("town(11)", m.x.town(11), 2);
        Museum.due("empty", m.x.count(3), 0);
        Museum.due("nothing is left to be read", m.x.town(1), -1);
        m.feed("c4444");
        Museum.due("what comes next stands first", m.x.town(5), 1);
        m.feed("#9999");
        Museum.due("a fault empties it, too", m.x.town(3), -1003);
        Museum.due("empty", m.x.count(3), 0);
        Museum.due("a text of 20 is read to its end", new Museum().town("#0000;#1111;#2222;#3"), -1020);
    }

    private static void ownMemory() {
        Museum.says("All memory is the museum's own");
        Museum one = new Museum();
        Museum other = new Museum();
        one.feed("#0000");
        Museum.due("the other tape", other.x.count(3), 0);
        one.x.town(5);
        other.plan(0, 0, "00");
        one.plan(1, 0, "55");
        Museum.due("the other town", other.x.count(100), 0);
        Museum.due("the other people", other.x.count(0), 1);
        one.law("l5(1=1);v9(1=1)");
        Museum.due("the other law", other.x.shadow(0, 0, 1), 0);
        one.reports("b0i55");
        Museum.due("the other reports", other.x.count(1), 0);
        one.x.keep();
        Museum.due("the other is not kept", other.x.undo(), false);
        one.x.sun(1);
        Museum.due("the other sun", other.x.count(4), 0);
        one.x.thing(2, 5);
        Museum.due("the other things", other.x.count(6), 0);
        one.tram("55:5");
        Museum.due("the other tram", other.x.count(5), 0);
        one.x.found(1, 0);
        Museum.due("the other tickets", other.x.count(30), -2);
        Museum.due("its own", one.x.count(31), 0);
    }

    private static void manyCalls() {
        Museum.says("used for at most 512 calls after it has been made");
        Museum m = new Museum();
        m.plan(0, 0, "009e9n");
        m.reports("a5i50;a12i93");
        // four calls till here; 84 rounds of six, then four: 512
        for (int round = 0; round < 84; round++) {
            m.x.keep();
            m.x.strike(0);
            m.x.feed(round, 0, 0, 0, 0);
            m.x.check(0, 20);
            m.x.undo();
            m.x.found(0, round % 10);
        }
        Museum.due("call 509", m.x.count(1), 2);
        Museum.due("call 510", m.x.count(30), 83 % 10);
        Museum.due("call 511", m.x.struck(), 0);
        Museum.due("call 512", m.x.at(0, 95), 99);
    }
}
