/** Edges of PLANS and of THE DAY: promises 4, 9, 10 and 12, and what Terms say of PEOPLE. */
public final class PlanEdgeTest {
    /** 90 steps. */
    private static final String NINETY = Museum.times("9n", 10);

    public static void main(String[] args) {
        bytes();
        people();
        versions();
        spot();
        ground();
        signs();
        timesAhead();
        groups();
        thirdBracket();
        ninetyFive();
        whichStep();
        theEnd();
        theOneBeforeStays();
        staying();
        townOfNow();
        minutes();
        choosing();
        suns();
        Museum.end("PlanEdgeTest");
    }

    private static void bytes() {
        Museum.says("a TEXT of at most 90 bytes; the first n bytes of the tape (1 to 90)");
        Museum m = new Museum();
        m.feed("00" + Museum.times(".", 90));
        Museum.due("0", m.x.plan(0, 0, 0), -1);
        Museum.due("-1", m.x.plan(0, 0, -1), -1);
        Museum.due("91", m.x.plan(0, 0, 91), -1);
        Museum.due("the tape stays", m.x.count(3), 100);
        Museum.due("nobody is told", m.x.count(0), 0);
        Museum.due("90", m.x.plan(0, 0, 90), 88);
        m.feed("00");
        Museum.due("1 is taken, though for a fault", m.x.plan(0, 0, 1), -1001);
        Museum.due("the tape is empty", m.x.count(3), 0);
        Museum.says("STEPS (none or some)");
        m.feed("00nn");
        Museum.due("2", m.x.plan(0, 0, 2), 0);
        Museum.says("NONE: it has not so many (the tape stays)");
        m.feed("00" + Museum.times(".", 18));
        Museum.due("21 of 20", m.x.plan(0, 0, 21), -1);
        Museum.due("the tape stays", m.x.count(3), 20);
        Museum.due("20 of 20", m.x.plan(0, 0, 20), 18);
    }

    private static void people() {
        Museum.says("PERSON p: PEOPLE 0 to 9");
        Museum m = new Museum();
        m.feed("12");
        Museum.due("-1", m.x.plan(-1, 0, 2), -1);
        Museum.due("10", m.x.plan(10, 0, 2), -1);
        Museum.due("the most", m.x.plan(Integer.MAX_VALUE, 0, 2), -1);
        Museum.due("the least", m.x.plan(Integer.MIN_VALUE, 0, 2), -1);
        Museum.due("the tape stays", m.x.count(3), 20);
        Museum.due("0", m.x.plan(0, 0, 2), 0);
        Museum.due("9", m.plan(9, 0, "34"), 0);
        Museum.due("told", m.x.count(0), 0b1000000001);
        Museum.due("where 0 is", m.x.at(0, 0), 21);
        Museum.due("where 9 is", m.x.at(9, 0), 43);
    }

    private static void versions() {
        Museum.says("VERSION v (0 to 2), (v above 0: a told one)");
        Museum m = new Museum();
        m.feed("12");
        Museum.due("1 of one that is not told", m.x.plan(0, 1, 2), -1);
        Museum.due("2 of one that is not told", m.x.plan(0, 2, 2), -1);
        Museum.due("the tape stays", m.x.count(3), 20);
        Museum.due("0", m.x.plan(0, 0, 2), 0);
        Museum.says("VERSIONS 1, 2: a PLAN or none (at first)");
        Museum.due("none", m.x.count(20), 1);
        m.feed("34");
        Museum.due("-1", m.x.plan(0, -1, 2), -1);
        Museum.due("3", m.x.plan(0, 3, 2), -1);
        Museum.due("the tape stays", m.x.count(3), 20);
        Museum.due("2", m.x.plan(0, 2, 2), 0);
        Museum.due("1 is none still", m.x.count(20), 0b101);
        Museum.due("1", m.plan(0, 1, "56n"), 1);
        Museum.due("all", m.x.count(20), 0b111);
        Museum.says("told if they have a PLAN of VERSION 0: a fault tells nobody");
        Museum.due("a fault", m.plan(1, 0, "56x"), -1002);
        Museum.due("person 1", m.x.count(0), 1);
        Museum.due("a version of person 1", m.plan(1, 1, "56"), -1);
        Museum.due("a faulty version", m.plan(0, 1, "5"), -1001);
        Museum.due("stays as it was", m.x.count(40), 0);
    }

    private static void spot() {
        Museum.says("two digits (x, y: its SPOT in MINUTE 0)");
        Museum m = new Museum();
        String[] texts = {"00", "90", "09", "99", "37"};
        int[] spots = {0, 9, 90, 99, 73};
        for (int i = 0; i < texts.length; i++) {
            Museum.due(texts[i], m.plan(0, 0, texts[i]), 0);
            Museum.due("is " + spots[i], m.x.at(0, 0), spots[i]);
        }
        for (char sign : "/: n(".toCharArray()) {
            Museum.due("the first is " + (int) sign, m.plan(0, 0, sign + "0"), -1000);
            Museum.due("the second is " + (int) sign, m.plan(0, 0, "0" + sign), -1001);
        }
    }

    private static void ground() {
        Museum.says("3 a SPOT that is wall or canal, at its first digit (asked behind both, ahead of the STEPS)");
        Museum m = new Museum();
        m.town("#0000;c1010");
        Museum.due("a wall", m.plan(0, 0, "00"), -3000);
        Museum.due("a canal", m.plan(0, 0, "10"), -3000);
        Museum.due("plain, beside them", m.plan(0, 0, "20"), 0);
        Museum.due("behind both: no second digit", m.plan(0, 0, "0x"), -1001);
        Museum.due("behind both: the end", m.plan(0, 0, "0"), -1001);
        Museum.due("ahead of the steps: no step", m.plan(0, 0, "00x"), -3000);
        Museum.due("ahead of the steps: too many", m.plan(0, 0, "10" + NINETY + "9n"), -3000);
        Museum.due("ahead of the steps: a third (", m.plan(0, 0, "10((("), -3000);
        Museum.due("the plan before stays", m.x.at(0, 0), 2);
    }

    private static void signs() {
        Museum.says("n (y + 1), e (x + 1), s (y - 1), w (x - 1), a dot, 46 (it stays)");
        Museum m = new Museum();
        int[] behind = {65, 56, 45, 54, 55};
        for (int i = 0; i < 5; i++) {
            Museum.due("a step", m.plan(0, 0, "55" + "nesw.".charAt(i)), 1);
            Museum.due("behind " + "nesw.".charAt(i), m.x.at(0, 1), behind[i]);
            Museum.due("and no further", m.x.at(0, 2), behind[i]);
        }
        Museum.says("1 what can't stand there");
        for (char sign : "modfrtvx-/'*)01: NESW,;\0\u00ff".toCharArray()) {
            Museum.due("a step " + (int) sign, m.plan(0, 0, "55" + sign), -1002);
            Museum.due("a second step " + (int) sign, m.plan(0, 0, "55n" + sign), -1003);
            Museum.due("a first step in ( " + (int) sign, m.plan(0, 0, "55(" + sign), -1003);
            Museum.due("behind a digit " + (int) sign, m.plan(0, 0, "552" + sign), -1003);
        }
    }

    private static void timesAhead() {
        Museum.says("ahead of each perhaps a digit 2 to 9 (so many times)");
        Museum m = new Museum();
        for (int times = 2; times <= 9; times++) {
            Museum.due(times + " steps", m.plan(0, 0, "00" + times + "n"), times);
            Museum.due("the last of them", m.x.at(0, times), 10 * times);
            Museum.due("none behind it", m.x.at(0, 95), 10 * times);
            Museum.due(times + " times a group", m.plan(0, 0, "00" + times + "(.)"), times);
        }
        Museum.due("0", m.plan(0, 0, "000n"), -1002);
        Museum.due("1", m.plan(0, 0, "001n"), -1002);
        Museum.due("10", m.plan(0, 0, "0010n"), -1002);
        Museum.due("0 ahead of a (", m.plan(0, 0, "000(n)"), -1002);
        Museum.due("1 ahead of a (", m.plan(0, 0, "001(n)"), -1002);
        Museum.due("two digits", m.plan(0, 0, "0022n"), -1003);
        Museum.due("two digits in a (", m.plan(0, 0, "00(22n)"), -1004);
    }

    private static void groups() {
        Museum.says("(STEPS) likewise (one STEP at least)");
        Museum m = new Museum();
        Museum.due("one step", m.plan(0, 0, "00(n)"), 1);
        Museum.due("none", m.plan(0, 0, "00()"), -1003);
        Museum.due("none in an inner one", m.plan(0, 0, "00(n())"), -1005);
        Museum.due("none, 2 times", m.plan(0, 0, "002()"), -1004);
        Museum.due("a digit and no step", m.plan(0, 0, "00(2)"), -1004);
        Museum.due("a ) too many", m.plan(0, 0, "00(n))"), -1005);
        Museum.due("a ) at first", m.plan(0, 0, "00)"), -1002);
        Museum.due("steps behind it", m.plan(0, 0, "00(n)e"), 2);
        Museum.due("inner ones", m.plan(0, 0, "003(n2(e.))"), 15);
        Museum.due("minute 5", m.x.at(0, 5), 12);
        Museum.due("minute 15", m.x.at(0, 15), 36);
    }

    private static void thirdBracket() {
        Museum.says("5 a third ( that is open in another one, at it");
        Museum m = new Museum();
        Museum.due("two", m.plan(0, 0, "00((n))"), 1);
        Museum.due("a third", m.plan(0, 0, "00(((n)))"), -5004);
        Museum.due("a third and nothing", m.plan(0, 0, "00((("), -5004);
        Museum.due("at it, not at its digit", m.plan(0, 0, "00((2(n)))"), -5005);
        Museum.due("a third behind steps", m.plan(0, 0, "00(n(e(w)))"), -5006);
        Museum.due("three side by side", m.plan(0, 0, "00(n)(n)(n)"), 3);
        Museum.due("three side by side in another one", m.plan(0, 0, "00((n)(n)(n))"), 3);
        Museum.due("two and two", m.plan(0, 0, "00((n))((n))"), 2);
        Museum.due("a third behind two that are closed", m.plan(0, 0, "00((n))(((n)))"), -5009);
    }

    private static void ninetyFive() {
        Museum.says("95 STEPS at most in all; 6 more than 95 STEPS");
        Museum m = new Museum();
        Museum.due("95", m.plan(0, 0, "00" + NINETY + "5."), 95);
        Museum.due("96", m.plan(0, 0, "00" + NINETY + "6."), -6022);
        Museum.due("95 and a 96th", m.plan(0, 0, "00" + NINETY + "5.."), -6024);
        Museum.due("95 by a group", m.plan(0, 0, "005(9.9..)"), 95);
        Museum.due("96 by a group", m.plan(0, 0, "006(9.7.)"), -6002);
        Museum.due("95 by inner groups", m.plan(0, 0, "005(4(4.)3.)"), 95);
        Museum.due("96 by inner groups", m.plan(0, 0, "004(4(6.))"), -6002);
        Museum.due("9 times 9 times 9", m.plan(0, 0, "009(9(9.))"), -6002);
        Museum.due("as many as can be told", m.plan(0, 0, "00" + Museum.times("9.", 44)), -6022);
        Museum.due("the 95th step is done in minute 95", m.plan(0, 0, "00" + Museum.times("9.", 10) + "4.n"), 95);
        Museum.due("minute 94", m.x.at(0, 94), 0);
        Museum.due("minute 95", m.x.at(0, 95), 10);
        Museum.due("its steps", m.x.count(40), 95);
    }

    private static void whichStep() {
        Museum.says("at the first byte of the STEP (or its digit) by which they are (asked when it ends; of an inner one first)");
        Museum m = new Museum();
        Museum.due("a letter", m.plan(0, 0, "00" + NINETY + "5.n"), -6024);
        Museum.due("a digit", m.plan(0, 0, "00" + NINETY + "5.2n"), -6024);
        Museum.due("a (", m.plan(0, 0, "00" + NINETY + "(3.3.)"), -6025);
        Museum.due("a ( that ends with too many by its digit", m.plan(0, 0, "00" + NINETY + "2(3.)"), -6022);
        Museum.due("a ( that ends with as many as may be", m.plan(0, 0, "00" + NINETY + "(3.2.)"), 95);
        Museum.due("of an inner one first", m.plan(0, 0, "00" + NINETY + "(2(3.))"), -6023);
        Museum.due("of the innermost one first", m.plan(0, 0, "00" + NINETY + "(2(6.))"), -6025);
        Museum.due("asked when it ends: a fault in it comes first", m.plan(0, 0, "009(9.9.x"), -1008);
        Museum.due("asked when it ends: the end comes first", m.plan(0, 0, "009(9.9."), -1008);
        Museum.due("asked when it ends: ahead of what comes next", m.plan(0, 0, "009(9.9.)x"), -6002);
        Museum.due("asked when it ends: ahead of the end of the outer one", m.plan(0, 0, "00(9(9.9.)"), -6003);
        Museum.due("asked when it ends: a digit alone", m.plan(0, 0, "00" + NINETY + "5.2"), -1025);
        Museum.due("a third ( in it comes first", m.plan(0, 0, "009(9((9.)))"), -5006);
    }

    private static void theEnd() {
        Museum.says("1 what can't stand there (the end, too)");
        Museum m = new Museum();
        String text = "00n2(e3(s)w)";
        int[] want = {-1001, 0, 1, -1004, -1005, -1006, -1007, -1008, -1009, -1010, -1011, 11};
        for (int n = 1; n <= text.length(); n++) {
            Museum.due(text.substring(0, n), m.plan(0, 0, text.substring(0, n)), want[n - 1]);
        }
    }

    private static void theOneBeforeStays() {
        Museum.says("in place of the one before; a FAULT (it stays)");
        Museum m = new Museum();
        m.plan(3, 0, "11ee");
        Museum.due("fault 1", m.plan(3, 0, "22n)"), -1003);
        Museum.due("fault 5", m.plan(3, 0, "22((("), -5004);
        Museum.due("fault 6", m.plan(3, 0, "229(9n9n)"), -6002);
        Museum.due("where it is", m.x.at(3, 2), 13);
        Museum.due("its steps", m.x.count(43), 2);
        Museum.due("another one", m.plan(3, 0, "22n"), 1);
        Museum.due("where it is", m.x.at(3, 1), 32);
        Museum.due("no step of the one before", m.x.at(3, 2), 32);
        Museum.due("its steps", m.x.count(43), 1);
    }

    private static void staying() {
        Museum.says("onto a wall, a canal, off THE TOWN: it stays");
        Museum m = new Museum();
        String[] edges = {"09n", "90e", "00s", "00w", "99n", "99e", "90s", "09w"};
        int[] spots = {90, 9, 0, 0, 99, 99, 9, 90};
        for (int i = 0; i < edges.length; i++) {
            m.plan(0, 0, edges[i]);
            Museum.due(edges[i], m.x.at(0, 1), spots[i]);
        }
        for (String sign : new String[] {"#", "c"}) {
            m.town(sign + "3355;.4444");
            for (char way : "nesw".toCharArray()) {
                m.plan(0, 0, "44" + way);
                Museum.due("onto " + sign + " by " + way, m.x.at(0, 1), 44);
            }
        }
        m.town("#3333");
        m.plan(0, 0, "233ene");
        Museum.due("it does the next step then", m.x.at(0, 4), 42);
        Museum.due("and the next", m.x.at(0, 5), 43);
        Museum.says("with none left it stays");
        Museum.due("in the next minute", m.x.at(0, 6), 43);
        Museum.due("in minute 95", m.x.at(0, 95), 43);
        m.plan(0, 0, "77");
        Museum.due("without steps in minute 1", m.x.at(0, 1), 77);
        Museum.due("without steps in minute 95", m.x.at(0, 95), 77);
    }

    private static void townOfNow() {
        Museum.says("by THE TOWN as it is now (the SPOT in MINUTE 0 counts, whatever it is now)");
        Museum m = new Museum();
        m.plan(0, 0, "003e");
        m.plan(0, 1, "053e");
        m.town("#2020;#0505");
        Museum.due("a wall that came later", m.x.at(0, 3), 1);
        m.x.choose(0, 1);
        Museum.due("its spot of minute 0 became a wall", m.x.at(0, 0), 50);
        Museum.due("off which it goes", m.x.at(0, 1), 51);
        m.town("c0505;#1515");
        Museum.due("it became a canal", m.x.at(0, 0), 50);
        Museum.due("a wall beside it", m.x.at(0, 3), 50);
        m.x.choose(0, 0);
        Museum.due("the wall went away", m.x.at(0, 3), 3);
        m.plan(0, 0, "05");
        Museum.due("a plan that starts there now is a fault", m.plan(0, 0, "05"), -3000);
    }

    private static void minutes() {
        Museum.says("There are MINUTES 0 to 95");
        Museum m = new Museum();
        m.plan(0, 0, "00" + Museum.times("9.", 10) + "4.n");
        Museum.due("-1", m.x.at(0, -1), -1);
        Museum.due("0", m.x.at(0, 0), 0);
        Museum.due("95", m.x.at(0, 95), 10);
        Museum.due("96", m.x.at(0, 96), -1);
        Museum.due("the most", m.x.at(0, Integer.MAX_VALUE), -1);
        Museum.due("the least", m.x.at(0, Integer.MIN_VALUE), -1);
        Museum.says("a told PERSON");
        Museum.due("-1", m.x.at(-1, 0), -1);
        Museum.due("1", m.x.at(1, 0), -1);
        Museum.due("10", m.x.at(10, 0), -1);
        Museum.due("the most", m.x.at(Integer.MAX_VALUE, 0), -1);
        Museum.due("the least", m.x.at(Integer.MIN_VALUE, 0), -1);
    }

    private static void choosing() {
        Museum.says("choose: false: no such ones, no PLAN");
        Museum m = new Museum();
        m.plan(0, 0, "00");
        m.plan(0, 2, "02");
        m.plan(9, 0, "90");
        m.plan(9, 1, "91");
        int[][] refused = {{-1, 0}, {1, 0}, {10, 0}, {0, -1}, {0, 3}, {0, 1}, {9, 2}, {9, -1}, {9, 3},
            {Integer.MAX_VALUE, 0}, {Integer.MIN_VALUE, 0}, {0, Integer.MAX_VALUE}, {0, Integer.MIN_VALUE}};
        for (int[] c : refused) {
            Museum.due("choose(" + c[0] + ", " + c[1] + ")", m.x.choose(c[0], c[1]), false);
        }
        Museum.due("changes nothing", m.x.count(10) + m.x.count(19), 0);
        Museum.due("choose(0, 2)", m.x.choose(0, 2), true);
        Museum.due("is chosen", m.x.count(10), 2);
        Museum.due("choose(9, 1)", m.x.choose(9, 1), true);
        Museum.due("is chosen", m.x.count(19), 1);
        Museum.due("refused", m.x.choose(0, 1), false);
        Museum.due("stays chosen", m.x.at(0, 0), 20);
        Museum.due("choose(0, 0)", m.x.choose(0, 0), true);
        Museum.due("is chosen", m.x.at(0, 0), 0);
        Museum.due("the other one stays", m.x.at(9, 0), 19);
    }

    private static void suns() {
        Museum.says("sun: a SUN (0, 1); false: no such one");
        Museum m = new Museum();
        Museum.due("1", m.x.sun(1), true);
        for (int u : new int[] {-1, 2, Integer.MAX_VALUE, Integer.MIN_VALUE}) {
            Museum.due("sun(" + u + ")", m.x.sun(u), false);
            Museum.due("stays", m.x.count(4), 1);
        }
        Museum.due("0", m.x.sun(0), true);
        Museum.due("chosen", m.x.count(4), 0);
    }
}
