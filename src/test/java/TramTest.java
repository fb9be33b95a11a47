/** Promises 30 (tram), 31 (found), 32 (tickets) and 33 (mayHave). */
public final class TramTest {
    public static void main(String[] args) {
        texts();
        refused();
        boarding();
        tickets();
        notAboard();
        wrongStop();
        many();
        Museum.end("TramTest");
    }

    private static void texts() {
        Museum m = new Museum();
        Museum.due("no tram", m.x.count(5), 0);
        Museum.due("one stop", m.tram("00:5"), 1);
        Museum.due("three stops", m.tram("00:5,99:06,00:95"), 3);
        Museum.due("count(5)", m.x.count(5), 3);
        Museum.due("no digit", m.tram("x0:5"), -1000);
        Museum.due("half a spot", m.tram("0:5"), -1001);
        Museum.due("no :", m.tram("00.5"), -1002);
        Museum.due("no minute", m.tram("00:,"), -1003);
        Museum.due("the end", m.tram("00:"), -1003);
        Museum.due("a third digit", m.tram("00:055"), -1005);
        Museum.due("a ;", m.tram("00:5;11:6"), -1004);
        Museum.due("a , and the end", m.tram("00:5,"), -1005);
        Museum.due("minute 96", m.tram("00:5,11:96"), -2008);
        Museum.due("minute 96, a third digit", m.tram("00:960"), -2003);
        Museum.due("minute 99 is not above, but that is asked behind", m.tram("00:5,11:99"), -2008);
        Museum.due("the same minute", m.tram("00:5,11:05"), -7008);
        Museum.due("a minute below", m.tram("00:15,11:9x"), -7009);
        Museum.due("minute 0 first", m.tram("00:0"), 1);
        String full = "00:1,00:2,00:3,00:4,00:5,00:6,00:7,00:8,00:9,00:10,00:11,00:12";
        Museum.due("12 stops", m.tram(full), 12);
        Museum.due("13 stops", m.tram(full + ",11:95"), -4000 - full.length() - 1);
        Museum.due("a 13th that can't stand", m.tram(full + ",x"), -1000 - full.length() - 1);
        Museum.due("a 13th and the end", m.tram(full + ","), -1000 - full.length() - 1);
        Museum.due("the tram before stays", m.x.count(5), 12);
        Museum.due("the tape is empty", m.x.count(3), 0);
    }

    private static void refused() {
        Museum m = new Museum();
        Museum.due("an empty tape", m.x.tram(1), -1);
        m.feed("00:5");
        Museum.due("0 bytes", m.x.tram(0), -1);
        Museum.due("-1 bytes", m.x.tram(-1), -1);
        Museum.due("21 bytes", m.x.tram(21), -1);
        Museum.due("the tape stays", m.x.count(3), 20);
        Museum.due("4 bytes", m.x.tram(4), 1);
        m.feed(Museum.times("0", 100));
        Museum.due("91 bytes", m.x.tram(91), -1);
        Museum.due("90 bytes", m.x.tram(90), -1002);
    }

    /** a and b come aboard at stop 0, c at stop 1, d and e at stop 2, f never. */
    private static Museum ride() {
        Museum m = new Museum();
        m.plan(0, 0, "00");
        m.plan(1, 0, "10w");
        m.plan(2, 0, "55");
        m.plan(3, 0, "00.n");
        m.plan(4, 0, "01");
        m.plan(5, 0, "56");
        m.plan(0, 1, "99");
        m.tram("00:1,55:2,01:3");
        m.plan(3, 0, "01");
        return m;
    }

    private static void boarding() {
        Museum m = ride();
        int[] stops = {0, 0, 1, 2, 2, -2, -1, -1, -1, -1};
        for (int p = 0; p < 10; p++) {
            Museum.due("stop of " + p, m.x.tickets(10 + p), stops[p]);
        }
        Museum.due("sold", m.x.tickets(0), 5);
        m.plan(1, 0, "10w3.9e");
        m.tram("00:1,55:2,01:3,00:4");
        Museum.due("aboard one comes not aboard again", m.x.tickets(10), 0);
        Museum.due("sold", m.x.tickets(0), 5);
        m.x.choose(0, 1);
        Museum.due("by the day that is chosen", m.x.tickets(10), -2);
        Museum.due("sold", m.x.tickets(0), 4);
        m = new Museum();
        Museum.due("no tram: sold", m.x.tickets(0), 0);
        Museum.due("no tram: rows", m.x.tickets(1), 1);
        Museum.due("no tram: missing", m.x.tickets(2), 0);
        Museum.due("no tram: mayHave(0)", m.x.mayHave(0), -1);
        Museum.due("nobody", m.x.tickets(10), -1);
        Museum.due("what 3", m.x.tickets(3), -1);
        Museum.due("what 9", m.x.tickets(9), -1);
        Museum.due("what -1", m.x.tickets(-1), -1);
        Museum.due("what 20", m.x.tickets(20), -1);
        Museum.due("least", m.x.tickets(Integer.MIN_VALUE), -1);
    }

    private static void tickets() {
        Museum m = ride();
        Museum.due("rows", m.x.tickets(1), 4);
        Museum.due("missing", m.x.tickets(2), 5);
        int[] holders = {0b11, 0b11, 0b100, 0b11000, 0b11000, -1};
        for (int ticket = 0; ticket < 6; ticket++) {
            Museum.due("mayHave(" + ticket + ")", m.x.mayHave(ticket), holders[ticket]);
        }
        Museum.due("mayHave(-1)", m.x.mayHave(-1), -1);
        Museum.due("mayHave(9)", m.x.mayHave(9), -1);
        Museum.due("found(1, 0)", m.x.found(1, 0), true);
        Museum.due("rows", m.x.tickets(1), 2);
        Museum.due("missing", m.x.tickets(2), 4);
        Museum.due("its own", m.x.mayHave(0), 0b10);
        Museum.due("the other one's", m.x.mayHave(1), 0b1);
        Museum.due("count(31)", m.x.count(31), 0);
        Museum.due("count(30)", m.x.count(30), -2);
        Museum.due("found with another one", m.x.found(0, 0), true);
        Museum.due("then not with the first", m.x.count(31), -2);
        Museum.due("but with that one", m.x.count(30), 0);
        Museum.due("whose it is", m.x.mayHave(0), 0b1);
        Museum.due("found with the first again", m.x.found(1, 0), true);
        Museum.due("then not with that one", m.x.count(30), -2);
        Museum.due("and once more", m.x.found(0, 0), true);
        Museum.due("another ticket in its place", m.x.found(0, 1), true);
        Museum.due("is its", m.x.count(30), 1);
        Museum.due("missing", m.x.tickets(2), 4);
        Museum.due("the first is free", m.x.mayHave(0), 0b10);
        Museum.due("none is found", m.x.found(0, -1), true);
        Museum.due("none", m.x.count(30), -2);
        Museum.due("none twice", m.x.found(0, -1), true);
        Museum.due("missing", m.x.tickets(2), 5);
        Museum.due("ticket 10", m.x.found(0, 10), false);
        Museum.due("ticket -2", m.x.found(0, -2), false);
        Museum.due("nobody", m.x.found(6, 0), false);
        Museum.due("person 10", m.x.found(10, 0), false);
        Museum.due("person -1", m.x.found(-1, 0), false);
        Museum.due("nobody's", m.x.count(36), -1);
    }

    private static void notAboard() {
        Museum m = ride();
        m.x.found(5, 2);
        Museum.due("found with one that is not aboard: no rows", m.x.tickets(1), 0);
        Museum.due("nobody may have it", m.x.mayHave(2), 0);
        Museum.due("nor another one", m.x.mayHave(0), 0);
        Museum.due("not sold is not sold still", m.x.mayHave(5), -1);
        Museum.due("missing still", m.x.tickets(2), 5);
        Museum.due("sold still", m.x.tickets(0), 5);
        m.x.found(5, 9);
        Museum.due("one that was not sold", m.x.tickets(1), 0);
        m.x.found(5, -1);
        Museum.due("rows again", m.x.tickets(1), 4);
    }

    private static void wrongStop() {
        Museum m = ride();
        m.x.found(0, 2);
        Museum.due("a ticket of another stop: no rows", m.x.tickets(1), 0);
        Museum.due("but it is found with one aboard", m.x.tickets(2), 4);
        Museum.due("nobody may have it", m.x.mayHave(2), 0);
        m.x.found(0, 5);
        Museum.due("the first ticket that was not sold", m.x.tickets(1), 0);
        Museum.due("all are missing", m.x.tickets(2), 5);
        m.x.found(0, 7);
        Museum.due("a ticket that was not sold", m.x.tickets(1), 0);
        Museum.due("all are missing", m.x.tickets(2), 5);
        m.x.found(0, 1);
        m.x.found(1, 0);
        m.x.found(2, 2);
        m.x.found(3, 4);
        m.x.found(4, 3);
        Museum.due("all are found", m.x.tickets(1), 1);
        Museum.due("none is missing", m.x.tickets(2), 0);
        Museum.due("who has it", m.x.mayHave(3), 0b10000);
    }

    private static void many() {
        Museum m = new Museum();
        for (int p = 0; p < 10; p++) {
            m.plan(p, 0, "77");
        }
        m.tram("77:95");
        Museum.due("ten at one stop", m.x.tickets(1), 3628800);
        Museum.due("anyone", m.x.mayHave(9), 1023);
        m.x.found(4, 9);
        Museum.due("nine", m.x.tickets(1), 362880);
        Museum.due("all but one", m.x.mayHave(0), 1023 - 16);
    }
}
