/** Edges of THE TOWN: promise 3, what Terms say of it, and of what count tells of it. */
public final class TownEdgeTest {
    private static final String FULL = Museum.row("#0000", ";", 26);

    public static void main(String[] args) {
        bytes();
        lines();
        signs();
        digits();
        corners();
        inPlace();
        theEnd();
        firstFromTheLeft();
        theOneBeforeStays();
        spots();
        Museum.end("TownEdgeTest");
    }

    private static void bytes() {
        Museum.says("a TEXT of at most 160 bytes; the first n bytes of the tape (1 to 160)");
        Museum m = new Museum();
        m.feed(FULL + ";#0000");
        Museum.due("0", m.x.town(0), -1);
        Museum.due("161", m.x.town(161), -1);
        Museum.due("the tape stays", m.x.count(3), 180);
        Museum.due("155, all that can be", m.x.town(155), 1);
        m.feed(FULL + ";#000");
        Museum.due("160 is taken, though for a fault", m.x.town(160), -4156);
        m.feed("#0000");
        Museum.due("1 is taken, though for a fault", m.x.town(1), -1001);
        Museum.due("the tape is empty", m.x.count(3), 0);
        Museum.says("NONE: it has not so many (the tape stays)");
        m.feed("#9999");
        Museum.due("21 of 20", m.x.town(21), -1);
        Museum.due("the tape stays", m.x.count(3), 20);
        Museum.due("20 of 20: a blank can't stand", m.x.town(20), -1005);
    }

    private static void lines() {
        Museum.says("LINES (26 at most)");
        Museum m = new Museum();
        Museum.due("26", m.town(FULL), 1);
        Museum.says("4 a 27th LINE, at its sign (if that can stand there)");
        for (String sign : new String[] {"#", "c", "."}) {
            Museum.due("a 27th " + sign, m.town(FULL + ";" + sign), -4156);
            Museum.due("a 27th that would be faulty behind it", m.town(FULL + ";" + sign + "x"), -4156);
        }
        Museum.due("no sign", m.town(FULL + ";0"), -1156);
        Museum.due("a ;", m.town(FULL + ";;"), -1156);
        Museum.due("the end", m.town(FULL + ";"), -1156);
        Museum.due("no ; ahead of it", m.town(FULL + "#"), -1155);
    }

    private static void signs() {
        Museum.says("a sign (# wall, c canal, a dot plain)");
        Museum m = new Museum();
        Museum.due("in all", m.town("#0000;c1010;.2020"), 2);
        Museum.due("#", m.x.count(100), 1);
        Museum.due("c", m.x.count(101), 2);
        Museum.due(".", m.x.count(102), 0);
        Museum.says("no blanks: 1 what can't stand there");
        for (char sign : "\"$-/bdC :;0\0\u00ff".toCharArray()) {
            Museum.due("sign " + (int) sign, m.town(sign + "0000"), -1000);
            Museum.due("second sign " + (int) sign, m.town("#0000;" + sign + "0000"), -1006);
        }
        Museum.says("LINES with a ; (59) between two");
        for (char sign : ":<, #c.".toCharArray()) {
            Museum.due("between " + (int) sign, m.town("#0000" + sign + "#0000"), -1005);
        }
    }

    private static void digits() {
        Museum.says("a sign and four digits");
        Museum m = new Museum();
        for (int place = 1; place <= 4; place++) {
            for (char digit : "/: a;-".toCharArray()) {
                String text = "#0000".substring(0, place) + digit + "#0000".substring(place + 1);
                Museum.due(text, m.town(text), -1000 - place);
            }
            for (char digit : "09".toCharArray()) {
                String text = "#4444".substring(0, place) + digit + "#4444".substring(place + 1);
                Museum.due(text, m.town(text), digit == '0' ? 5 : 6);
            }
        }
        Museum.due("a fifth digit", m.town("#00000"), -1005);
    }

    private static void corners() {
        Museum.says("x, y of a corner, x, y of another one: all SPOTS between these (both counted, in whatever order)");
        Museum m = new Museum();
        for (String text : new String[] {"#3456", "#5634", "#3654", "#5436"}) {
            Museum.due(text, m.town(text), 9);
            int wrong = 0;
            for (int spot = 0; spot < 100; spot++) {
                boolean inside = spot % 10 >= 3 && spot % 10 <= 5 && spot / 10 >= 4 && spot / 10 <= 6;
                wrong += m.x.count(100 + spot) == (inside ? 1 : 0) ? 0 : 1;
            }
            Museum.due("spots of " + text, wrong, 0);
            m = new Museum();
        }
        for (String text : new String[] {"#0099", "#9900", "#0990", "#9009"}) {
            Museum.due("all of the town " + text, m.town(text), 100);
        }
        Museum.due("the lowest row", m.town("c9000"), 10);
        Museum.due("its last spot", m.x.count(109), 2);
        Museum.due("the one above it", m.x.count(110), 0);
        Museum.due("the first column", m.town("c0900"), 10);
        Museum.due("its last spot", m.x.count(190), 2);
        Museum.due("the one beside it", m.x.count(191), 0);
        Museum.due("the highest row", m.town("c9909"), 10);
        Museum.due("the one below it", m.x.count(189), 0);
        Museum.due("the last column", m.town("c9990"), 10);
        Museum.due("the one beside it", m.x.count(198), 0);
        Museum.due("one spot", m.town("c0000"), 1);
        Museum.due("the last one", m.town("c9999"), 1);
        Museum.due("the last one", m.x.count(199), 2);
    }

    private static void inPlace() {
        Museum.says("that now; LINE by LINE");
        Museum m = new Museum();
        Museum.due("a court in a wall", m.town("#3355;.4444"), 8);
        Museum.due("a wall over it", m.town(".4444;#3355"), 9);
        Museum.due("a canal over a wall", m.town("#3355;c3355"), 9);
        Museum.due("is canal", m.x.count(144), 2);
        Museum.says("in place of all before (all plain ahead of the first LINE)");
        Museum.due("the town of before is gone", m.town(".4444"), 0);
        Museum.due("plain", m.x.count(133), 0);
        Museum.due("plain", m.x.count(144), 0);
    }

    private static void theEnd() {
        Museum.says("1 what can't stand there (the end, too)");
        Museum m = new Museum();
        String text = "#0000;c1111";
        for (int n = 1; n <= text.length(); n++) {
            int want = n == 5 ? 1 : n == 11 ? 2 : -1000 - n;
            Museum.due(text.substring(0, n), m.town(text.substring(0, n)), want);
        }
    }

    private static void firstFromTheLeft() {
        Museum.says("FAULTS, the first from the left");
        Museum m = new Museum();
        Museum.due("two faults", m.town("#0x00;x0000"), -1002);
        Museum.due("a fault ahead of a 27th line", m.town("#00 0;" + Museum.row("#0000", ";", 25) + ";#"), -1003);
        Museum.due("a fault in the 26th line", m.town(Museum.row("#0000", ";", 25) + ";#000x;#"), -1154);
    }

    private static void theOneBeforeStays() {
        Museum.says("a FAULT: the one before stays");
        Museum m = new Museum();
        m.town("#0000;c1111");
        Museum.due("a fault at the end", m.town("c0099;"), -1006);
        Museum.due("a 27th line", m.town(Museum.row("c0099", ";", 27).substring(0, 160)), -4156);
        Museum.due("a wall", m.x.count(100), 1);
        Museum.due("a canal", m.x.count(111), 2);
        Museum.due("plain", m.x.count(155), 0);
        Museum.says("NONE");
        m.feed("c0099");
        m.x.town(0);
        m.x.town(21);
        m.x.town(161);
        Museum.due("a wall", m.x.count(100), 1);
        Museum.due("plain", m.x.count(155), 0);
    }

    private static void spots() {
        Museum.says("100 + a SPOT what it is (number: 10 y and x)");
        Museum m = new Museum();
        m.town("#7373;c9999;c0000");
        Museum.due("x 7, y 3", m.x.count(137), 1);
        Museum.due("x 3, y 7", m.x.count(173), 0);
        Museum.due("the first", m.x.count(100), 2);
        Museum.due("the last", m.x.count(199), 2);
        Museum.says("NONE for others");
        Museum.due("ahead of the first", m.x.count(99), -1);
        Museum.due("behind the last", m.x.count(200), -1);
        Museum.due("the most", m.x.count(Integer.MAX_VALUE), -1);
    }
}
