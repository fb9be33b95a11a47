/** Edges of A TRAM and its TICKETS: promises 30, 31, 32 and 33. */
public final class TramEdgeTest {
    private static final int MOST = Integer.MAX_VALUE;
    private static final int LEAST = Integer.MIN_VALUE;
    private static final String TWELVE = "00:0,00:1,00:2,00:3,00:4,00:5,00:6,00:7,00:8,00:9,00:10,00:11";

    public static void main(String[] args) {
        bytes();
        twelve();
        spots();
        minutes();
        above();
        signs();
        theEnd();
        theOneBeforeStays();
        aboard();
        found();
        rows();
        nothingFound();
        notAboard();
        missing();
        mayHave();
        ofTheDay();
        wrong();
        Museum.end("TramEdgeTest");
    }

    private static void fault(String text, int want) {
        Museum m = new Museum();
        Museum.due(text, m.tram(text), want);
        Museum.due("stops", m.x.count(5), 0);
        Museum.due("the tape", m.x.count(3), 0);
    }

    private static void bytes() {
        Museum.says("a TEXT of at most 90 bytes; the first n bytes of the tape (1 to 90)");
        Museum m = new Museum();
        String longest = "00:00,00:01,00:02,00:03,00:04,00:05,00:06,00:07,00:08,00:09,00:10,00:11";
        m.feed(longest + ",00:12,00:13,00:14,00:15");
        Museum.due("0", m.x.tram(0), -1);
        Museum.due("-1", m.x.tram(-1), -1);
        Museum.due("91", m.x.tram(91), -1);
        Museum.due("the most", m.x.tram(MOST), -1);
        Museum.due("the least", m.x.tram(LEAST), -1);
        Museum.due("the tape stays", m.x.count(3), 100);
        Museum.due("90 is taken, though for a fault", m.x.tram(90), -4072);
        Museum.due("the tape is empty", m.x.count(3), 0);
        m.feed(longest + ",");
        Museum.due("71, all that can be", m.x.tram(71), 12);
        m.feed("0");
        Museum.due("1 is taken, though for a fault", m.x.tram(1), -1001);
        Museum.says("NONE: it has not so many (the tape stays)");
        m.feed("00:10,11:11,22:22,33");
        Museum.due("21 of 20", m.x.tram(21), -1);
        Museum.due("the tape stays", m.x.count(3), 20);
        Museum.due("20 of 20", m.x.tram(20), -1020);
    }

    private static void twelve() {
        Museum.says("STOPS (12 at most) with a , between two");
        Museum m = new Museum();
        Museum.due("12", m.tram(TWELVE), 12);
        Museum.due("are there", m.x.count(5), 12);
        Museum.says("4 a 13th STOP, at its first digit (if that can stand there)");
        int place = TWELVE.length() + 1;
        fault(TWELVE + ",00:12", -4000 - place);
        fault(TWELVE + ",9", -4000 - place);
        fault(TWELVE + ",0x", -4000 - place);
        fault(TWELVE + ",x", -1000 - place);
        fault(TWELVE + ",/", -1000 - place);
        fault(TWELVE + ",:", -1000 - place);
        fault(TWELVE + ",", -1000 - place);
        fault(TWELVE + "00:12", -1000 - place + 1);
        fault(TWELVE.replace("00:11", "00:10") + ",00:12", -7000 - TWELVE.length() + 2);
    }

    private static void spots() {
        Museum.says("two digits (x, y: a SPOT)");
        Museum m = new Museum();
        m.plan(0, 0, "37");
        m.plan(1, 0, "73");
        m.town("#3737");
        Museum.due("a wall, too", m.tram("37:5"), 1);
        Museum.due("x 3, y 7", m.x.tickets(10), 0);
        Museum.due("not x 7, y 3", m.x.tickets(11), -2);
        for (String spot : new String[] {"00", "09", "90", "99"}) {
            Museum.due(spot, m.tram(spot + ":5"), 1);
        }
        for (char sign : "/: a,".toCharArray()) {
            fault(sign + "0:5", -1000);
            fault("0" + sign + ":5", -1001);
            fault("00:5," + sign + "0:6", -1005);
            fault("00:5,0" + sign + ":6", -1006);
        }
    }

    private static void minutes() {
        Museum.says("a MINUTE (one or two digits)");
        Museum m = new Museum();
        m.plan(0, 0, "00");
        for (String minute : new String[] {"0", "00", "9", "09", "10", "94", "95"}) {
            Museum.due(minute, m.tram("00:" + minute), 1);
        }
        fault("00:", -1003);
        fault("00:/", -1003);
        fault("00::", -1003);
        fault("00:5/", -1004);
        fault("00:5:", -1004);
        fault("00:005", -1005);
        fault("00:950", -1005);
        Museum.says("2 a MINUTE above 95, at its first digit");
        for (String above : new String[] {"96", "97", "99"}) {
            fault("00:" + above, -2003);
            fault("00:" + above + "x", -2003);
            fault("00:1,00:" + above, -2008);
        }
        Museum.says("the STOP is in that MINUTE");
        m.plan(0, 0, "01" + Museum.times("9.", 10) + "4.s");
        Museum.due("95", m.tram("00:95"), 1);
        Museum.due("aboard", m.x.tickets(10), 0);
        Museum.due("94", m.tram("00:94"), 1);
        Museum.due("not aboard", m.x.tickets(10), -2);
        m.plan(0, 0, "00n");
        Museum.due("0", m.tram("00:0"), 1);
        Museum.due("aboard", m.x.tickets(10), 0);
        Museum.due("1", m.tram("00:1"), 1);
        Museum.due("not aboard", m.x.tickets(10), -2);
    }

    private static void above() {
        Museum.says("each above the one ahead of it; 7 a MINUTE that is not above, at its first digit (asked behind 2)");
        Museum m = new Museum();
        Museum.due("one above", m.tram("00:5,00:6"), 2);
        Museum.due("one above", m.tram("00:9,00:10"), 2);
        Museum.due("one above", m.tram("00:94,00:95"), 2);
        fault("00:5,00:5", -7008);
        fault("00:5,00:05", -7008);
        fault("00:5,00:4", -7008);
        fault("00:10,00:9", -7009);
        fault("00:10,00:09", -7009);
        fault("00:1,00:2,00:2", -7013);
        fault("00:1,00:5,00:3", -7013);
        fault("00:0,00:0", -7008);
        fault("00:95,00:0", -7009);
        fault("00:95,00:96", -2009);
        fault("00:5,00:4x", -7008);
        fault("00:50,00:400", -7009);
        fault("00:50,00:960", -2009);
        fault("00:50,00:x", -1009);
    }

    private static void signs() {
        Museum.says("a : (58), a , between two: 1 what can't stand there");
        for (char sign : "9;. ,~".toCharArray()) {
            fault("00" + sign + "5", -1002);
        }
        for (char sign : ";.: -+".toCharArray()) {
            fault("00:5" + sign + "00:6", -1004);
        }
        fault("00:5,", -1005);
        fault("00:5,,00:6", -1005);
        fault(",00:5", -1000);
        fault(" 00:5", -1000);
        fault("00: 5", -1003);
    }

    private static void theEnd() {
        Museum.says("1 what can't stand there (the end, too)");
        String text = "00:5,99:95";
        for (int n = 1; n <= text.length(); n++) {
            Museum m = new Museum();
            // 99:9 is above 5 already
            int want = n == 4 ? 1 : n >= 9 ? 2 : -1000 - n;
            Museum.due(text.substring(0, n), m.tram(text.substring(0, n)), want);
        }
    }

    private static void theOneBeforeStays() {
        Museum.says("in place of the one before; a FAULT (the one before stays)");
        Museum m = new Museum();
        m.plan(0, 0, "00");
        m.plan(1, 0, "11");
        Museum.due("two stops", m.tram("99:1,00:2"), 2);
        String[] texts = {"11:1,00:2,", "11:1,00:96", "11:1,00:1", TWELVE + ",1"};
        int[] wants = {-1010, -2008, -7008, -4000 - TWELVE.length() - 1};
        for (int i = 0; i < texts.length; i++) {
            Museum.due(texts[i], m.tram(texts[i]), wants[i]);
            Museum.due("stops", m.x.count(5), 2);
            Museum.due("a comes aboard at the second", m.x.tickets(10), 1);
            Museum.due("b does not", m.x.tickets(11), -2);
        }
        Museum.due("one stop", m.tram("11:1"), 1);
        Museum.due("no second one is left", m.x.tickets(10), -2);
        Museum.due("b comes aboard", m.x.tickets(11), 0);
        Museum.due("sold", m.x.tickets(0), 1);
    }

    private static void aboard() {
        Museum.says("all told PEOPLE that are on that SPOT in that MINUTE and are not aboard come aboard, and get the next TICKETS (0 on)");
        Museum m = new Museum();
        m.plan(0, 0, "00");
        m.plan(9, 0, "00");
        m.plan(4, 0, "10w");
        Museum.due("no tram", m.x.tickets(0), 0);
        Museum.due("12 stops on one spot", m.tram(TWELVE), 12);
        Museum.due("a at the first", m.x.tickets(10), 0);
        Museum.due("j at the first", m.x.tickets(19), 0);
        Museum.due("e at the second", m.x.tickets(14), 1);
        Museum.due("sold", m.x.tickets(0), 3);
        Museum.due("tickets of the first stop", m.x.mayHave(0), 0b1000000001);
        Museum.due("tickets of the first stop", m.x.mayHave(1), 0b1000000001);
        Museum.due("the ticket of the second", m.x.mayHave(2), 0b10000);
        Museum.due("no more", m.x.mayHave(3), -1);
        m.plan(5, 0, "04" + "3.s.s.s.s");
        Museum.due("f in minute 10, at the 11th", m.x.tickets(15), 10);
        m.plan(5, 0, "04" + "4.s.s.s.s");
        Museum.due("f in minute 11, at the 12th", m.x.tickets(15), 11);
        Museum.due("its ticket", m.x.mayHave(3), 0b100000);
        m.plan(5, 0, "04" + "5.s.s.s.s");
        Museum.due("f in minute 12, never", m.x.tickets(15), -2);
        Museum.due("sold", m.x.tickets(0), 3);
    }

    private static void found() {
        Museum.says("A TICKET (0 to 9; NONE: none) is FOUND with a told PERSON (with no other one then); false: no such ones");
        Museum m = new Museum();
        m.plan(0, 0, "00");
        m.plan(9, 0, "99");
        Museum.due("none at first", m.x.count(30), -2);
        int[][] refused = {{-1, 0}, {1, 0}, {10, 0}, {0, -2}, {0, 10}, {1, -1}, {MOST, 0}, {LEAST, 0}, {0, MOST}, {0, LEAST}};
        for (int ticket = 0; ticket < 10; ticket++) {
            Museum.due("found(0, " + ticket + ")", m.x.found(0, ticket), true);
            Museum.due("is found with a", m.x.count(30), ticket);
            for (int[] c : refused) {
                Museum.due("found(" + c[0] + ", " + c[1] + ")", m.x.found(c[0], c[1]), false);
            }
            Museum.due("stays", m.x.count(30), ticket);
            Museum.due("found with j", m.x.found(9, ticket), true);
            Museum.due("with no other one then", m.x.count(30), -2);
            Museum.due("with j", m.x.count(39), ticket);
        }
        Museum.due("found(9, NONE)", m.x.found(9, -1), true);
        Museum.due("none", m.x.count(39), -2);
        Museum.due("none with one that has none", m.x.found(0, -1), true);
        Museum.due("none", m.x.count(30), -2);
        m.x.found(0, 3);
        Museum.due("the same again", m.x.found(0, 3), true);
        Museum.due("with a still", m.x.count(30), 3);
        m.x.found(9, -1);
        Museum.due("none with j takes a none away", m.x.count(30), 3);
    }

    /** a and b come aboard at the first stop, c, d and e at the second, f never. */
    private static Museum ride() {
        Museum m = new Museum();
        String[] starts = {"00", "00", "11", "11", "11", "22"};
        for (int p = 0; p < 6; p++) {
            m.plan(p, 0, starts[p]);
        }
        m.tram("00:3,11:4");
        return m;
    }

    private static void rows() {
        Museum.says("ROWS: TICKETS to all aboard, so that those of a STOP have that STOP's, and what was FOUND is theirs");
        Museum m = ride();
        Museum.due("2 times 6", m.x.tickets(1), 12);
        m.x.found(2, 4);
        Museum.due("c's is found", m.x.tickets(1), 4);
        m.x.found(3, 2);
        Museum.due("d's is found", m.x.tickets(1), 2);
        m.x.found(4, 3);
        Museum.due("e's is found", m.x.tickets(1), 2);
        m.x.found(1, 1);
        m.x.found(0, 0);
        Museum.due("all are found", m.x.tickets(1), 1);
        m.x.found(0, -1);
        Museum.due("the last one's can be only one", m.x.tickets(1), 1);
        Museum.says("a TICKET of another STOP: then there is none");
        m = ride();
        m.x.found(1, 2);
        Museum.due("the first of the next stop", m.x.tickets(1), 0);
        m.x.found(1, 1);
        Museum.due("the last of its own", m.x.tickets(1), 6);
        m.x.found(2, 1);
        Museum.due("the last of the stop ahead", m.x.tickets(1), 0);
        m.x.found(2, 5);
        Museum.due("one that was not sold", m.x.tickets(1), 0);
        m.x.found(2, 2);
        Museum.due("the first of its own", m.x.tickets(1), 4);
        Museum.says("10 aboard at one STOP");
        m = new Museum();
        for (int p = 0; p < 10; p++) {
            m.plan(p, 0, "55");
        }
        m.tram("55:0");
        Museum.due("rows", m.x.tickets(1), 3628800);
        Museum.due("sold", m.x.tickets(0), 10);
        Museum.due("the last ticket", m.x.mayHave(9), 1023);
        Museum.due("no such ticket", m.x.mayHave(10), -1);
        m.x.found(9, 9);
        Museum.due("the last ticket", m.x.mayHave(9), 1 << 9);
        Museum.due("rows", m.x.tickets(1), 362880);
    }

    private static void nothingFound() {
        Museum.says("nobody is aboard, nothing is FOUND: one row, the empty one");
        Museum m = new Museum();
        Museum.due("no tram", m.x.tickets(1), 1);
        m.plan(0, 0, "00");
        m.tram("99:5");
        Museum.due("nobody aboard", m.x.tickets(1), 1);
        Museum.due("sold", m.x.tickets(0), 0);
        Museum.due("missing", m.x.tickets(2), 0);
        Museum.due("ticket 0", m.x.mayHave(0), -1);
        m.x.found(0, 0);
        Museum.due("found with one that is not aboard", m.x.tickets(1), 0);
        Museum.due("missing", m.x.tickets(2), 0);
        Museum.due("ticket 0 was not sold, ahead of no rows", m.x.mayHave(0), -1);
    }

    private static void notAboard() {
        Museum.says("of one that is not aboard nothing can have been FOUND: then there is none");
        Museum m = ride();
        for (int ticket = 0; ticket < 10; ticket++) {
            m.x.found(5, ticket);
            Museum.due("found with f: " + ticket, m.x.tickets(1), 0);
            Museum.due("who may have it", m.x.mayHave(ticket), ticket < 5 ? 0 : -1);
        }
        m.x.found(5, -1);
        Museum.due("none with f", m.x.tickets(1), 12);
    }

    private static void missing() {
        Museum.says("MISSING (sold ones that are not FOUND with one aboard); sold");
        Museum m = ride();
        Museum.due("all", m.x.tickets(2), 5);
        m.x.found(5, 0);
        Museum.due("found with one that is not aboard", m.x.tickets(2), 5);
        m.x.found(0, 0);
        Museum.due("found with one aboard", m.x.tickets(2), 4);
        m.x.found(1, 4);
        Museum.due("with one of another stop, too", m.x.tickets(2), 3);
        m.x.found(2, 5);
        Museum.due("the first that was not sold", m.x.tickets(2), 3);
        m.x.found(2, 9);
        Museum.due("the last there is", m.x.tickets(2), 3);
        m.x.found(2, 1);
        m.x.found(3, 2);
        m.x.found(4, 3);
        Museum.due("none", m.x.tickets(2), 0);
        Museum.due("sold", m.x.tickets(0), 5);
    }

    private static void mayHave() {
        Museum.says("who may have a TICKET (as bits; 0: there are no ROWS); NONE: it was not sold");
        Museum m = ride();
        int[] may = {0b11, 0b11, 0b11100, 0b11100, 0b11100, -1, -1, -1, -1, -1, -1};
        for (int ticket = 0; ticket < 11; ticket++) {
            Museum.due("mayHave(" + ticket + ")", m.x.mayHave(ticket), may[ticket]);
        }
        for (int ticket : new int[] {-1, -2, MOST, LEAST}) {
            Museum.due("mayHave(" + ticket + ")", m.x.mayHave(ticket), -1);
        }
        m.x.found(3, 4);
        Museum.due("found", m.x.mayHave(4), 0b1000);
        Museum.due("the others", m.x.mayHave(2), 0b10100);
        m.x.found(0, 0);
        Museum.due("found with the first", m.x.mayHave(0), 0b1);
        Museum.due("the other one's", m.x.mayHave(1), 0b10);
        m.x.found(0, 4);
        Museum.due("found with one that can't have it", m.x.mayHave(4), 0);
        Museum.due("no rows", m.x.mayHave(0), 0);
    }

    /** No other call comes between the change and the question. */
    private static void ofTheDay() {
        Museum.says("in that MINUTE of THE DAY");
        Museum m = ride();
        m.plan(0, 1, "99");
        m.x.choose(0, 1);
        Museum.due("mayHave by the day", m.x.mayHave(0), 0b10);
        m.x.choose(0, 0);
        Museum.due("mayHave by the day", m.x.mayHave(0), 0b11);
        m.x.choose(0, 1);
        Museum.due("tickets(10)", m.x.tickets(10), -2);
        m.x.choose(0, 0);
        Museum.due("tickets(0)", m.x.tickets(0), 5);
        m.x.choose(0, 1);
        Museum.due("tickets(1)", m.x.tickets(1), 6);
        m.x.choose(0, 0);
        Museum.due("tickets(2)", m.x.tickets(2), 5);
        m.plan(0, 0, "98e");
        Museum.due("by the plan", m.x.mayHave(0), 0b10);
        m.tram("11:5");
        Museum.due("by the tram", m.x.mayHave(0), 0b11100);
    }

    private static void wrong() {
        Museum.says("what 0, 1, 2, 10 + p of told PERSON p; NONE: no such ones (ahead of -2)");
        Museum m = ride();
        for (int what : new int[] {-1, 3, 9, 16, 19, 20, MOST, LEAST}) {
            Museum.due("tickets(" + what + ")", m.x.tickets(what), -1);
        }
        Museum.due("f, told, never aboard", m.x.tickets(15), -2);
    }
}
