/** Edges of THE LAW: promises 5 and 15, and what Terms say of CLAUSES. */
public final class LawEdgeTest {
    private static final String MIN = "65536*32768";

    public static void main(String[] args) {
        bytes();
        clauses();
        letters();
        firstThatHolds();
        bounds();
        numbers();
        signs();
        names();
        wrapAround();
        divided();
        refusedInC();
        asMuchAsMatters();
        seventh();
        theEnd();
        theOneBeforeStays();
        shadow();
        Museum.end("LawEdgeTest");
    }

    /** What l is by sun 1 in minute 30, if a clause says it. */
    private static void is(String sum, int want) {
        Museum m = new Museum();
        Museum.due("law l" + sum, m.law("l" + sum + "(1=1)"), 1);
        Museum.due(sum, m.x.shadow(30, 1, 1), want);
    }

    /** Whether a C holds by sun 1 in minute 30. */
    private static void holds(String condition, boolean want) {
        Museum m = new Museum();
        Museum.due("law l1(" + condition + ")", m.law("l1(" + condition + ")"), 1);
        Museum.due(condition, m.x.shadow(30, 1, 1), want ? 1 : 0);
    }

    private static void fault(String text, int want) {
        Museum m = new Museum();
        Museum.due(text, m.law(text), want);
        Museum.due("clauses", m.x.count(2), 0);
        Museum.due("the tape", m.x.count(3), 0);
    }

    private static void bytes() {
        Museum.says("a TEXT of at most 240 bytes; the first n bytes of the tape (1 to 240)");
        Museum m = new Museum();
        String longest = "l1(1=1" + Museum.times("&1=1", 57) + "&1=01)";
        m.feed(longest + ";");
        Museum.due("0", m.x.law(0), -1);
        Museum.due("-1", m.x.law(-1), -1);
        Museum.due("241", m.x.law(241), -1);
        Museum.due("the tape stays", m.x.count(3), 260);
        Museum.due("240", m.x.law(240), 1);
        Museum.due("holds", m.x.shadow(0, 0, 1), 1);
        m.feed(longest.substring(0, 238) + "2)");
        Museum.due("240, the last test of which does not hold", m.x.law(240), 1);
        Museum.due("does not hold", m.x.shadow(0, 0, 1), 0);
        m.feed("l");
        Museum.due("1 is taken, though for a fault", m.x.law(1), -1001);
        Museum.says("NONE: it has not so many (the tape stays)");
        m.feed("l1(1=1&11=11&111=11)");
        Museum.due("21 of 20", m.x.law(21), -1);
        Museum.due("20 of 20", m.x.law(20), 1);
    }

    private static void clauses() {
        Museum.says("CLAUSES (16 at most) with a ; between two");
        Museum m = new Museum();
        String full = Museum.row("l1(t<9)", ";", 15) + ";l2(1=1)";
        Museum.due("16", m.law(full), 16);
        Museum.due("the 16th", m.x.shadow(9, 0, 1), 2);
        Museum.says("4 a 17th CLAUSE, at its letter (if that can stand there)");
        for (char letter : "alvhr".toCharArray()) {
            fault(full + ";" + letter, -4128);
            fault(full + ";" + letter + "x", -4128);
        }
        fault(full + ";t", -1128);
        fault(full + ";", -1128);
        fault(full + "l1(1=1)", -1127);
        fault("l1(1=1):l1(1=1)", -1007);
        fault("l1(1=1)<l1(1=1)", -1007);
    }

    private static void letters() {
        Museum.says("a letter, E, and (C)");
        for (char letter : "bcgiqstuwxypmk`~ALVHR(10;".toCharArray()) {
            fault(letter + "1(1=1)", -1000);
        }
        fault("l(1=1)", -1001);
        fault("l1", -1002);
        fault("l1[1=1]", -1002);
        fault("l1()", -1003);
        fault("l1(1)", -1004);
        fault("l1(1=1", -1006);
        fault("l1(1=1]", -1006);
    }

    private static void firstThatHolds() {
        Museum.says("of the first CLAUSE of a letter whose C holds the E");
        Museum m = new Museum();
        m.law("a5(t>5);l3(t>2);l4(t>1);a6(t>4)");
        int[] lengths = {0, 0, 4, 3, 3, 3, 3};
        int[] ways = {0, 0, 0, 0, 0, 6, 5};
        for (int t = 0; t < 7; t++) {
            Museum.due("l in " + t, m.x.shadow(t, 0, 1), lengths[t]);
            Museum.due("a in " + t, m.x.shadow(t, 0, 0), ways[t]);
        }
        Museum.says("none: 0");
        m.law("l3(1=2)");
        Museum.due("a clause that does not hold", m.x.shadow(0, 0, 1), 0);
        Museum.due("no clause", m.x.shadow(0, 0, 0), 0);
        m.plan(0, 0, "00");
        m.plan(1, 0, "10");
        Museum.due("no clause of v", m.x.sees(0, 0), 0);
        Museum.due("no clause of h", m.x.hears(0, 0), 0);
        m.feed(0);
        Museum.due("no clause of r", m.x.sure(5, 1, 0), 0);
    }

    private static void bounds() {
        Museum.says("l how long they are (0 to 9), beyond its bounds the bound");
        is("0", 0);
        is("0-1", 0);
        is("9", 9);
        is("10", 9);
        is("99999", 9);
        is("0-99999", 0);
        is("99999*21474+99999+5122", 9);
        is("99999*21474+99999+5123", 0);
        is(MIN, 0);
        is(MIN + "-1", 9);
        Museum.says("a the WAY in which shadows fall (0 to 7)");
        Museum m = new Museum();
        m.law("a0-1(t=0);a0(t=1);a7(t=2);a8(t=3);a9(t=4);a99999(t=5)");
        int[] ways = {0, 0, 7, 7, 7, 7};
        for (int t = 0; t < 6; t++) {
            Museum.due("a in " + t, m.x.shadow(t, 0, 0), ways[t]);
        }
        Museum.says("v how many SPOTS far one sees (0 to 14)");
        m.plan(0, 0, "00");
        m.plan(1, 0, "99");
        m.law("v0-1(t=0);v8(t=1);v9(t=2);v14(t=3);v15(t=4);v99999(t=5);v" + MIN + "(t=6);h17(t=0);h18(t=1);h19(t=2);h0-1(t=3)");
        int[] seen = {0, 0, 2, 2, 2, 2, 0};
        for (int t = 0; t < 7; t++) {
            Museum.due("v in " + t, m.x.sees(0, t), seen[t]);
        }
        Museum.says("h how far one is heard (0 to 18)");
        int[] heard = {0, 2, 2, 0};
        for (int t = 0; t < 4; t++) {
            Museum.due("h in " + t, m.x.hears(0, t), heard[t]);
        }
        m.plan(1, 0, "00");
        Museum.due("v below 0 is 0: one sees its own spot", m.x.sees(0, 0), 2);
        Museum.due("h below 0 is 0: one is heard on one spot", m.x.hears(0, 3), 2);
        Museum.says("r tenths that one remembers rightly (0 to 10)");
        m.plan(2, 0, "00");
        m.plan(3, 0, "00");
        m.law("r0-1(p=0);r11(p=1);r10(p=2);r1(p=3)");
        int[] above = {0, 1, 1, 1};
        int[] below = {1, 1, 1, 10};
        for (int p = 0; p < 4; p++) {
            m.feed(p);
            Museum.due("above, by " + p, m.x.sure(5, 1, 0), above[p]);
            m.feed(p);
            Museum.due("below, by " + p, m.x.sure(5, 1, 1), below[p]);
        }
    }

    private static void numbers() {
        Museum.says("a number of one to five digits");
        is("7", 7);
        is("00007", 7);
        is("0", 0);
        holds("99999>99998", true);
        Museum.says("2 a sixth digit, at it");
        fault("l123456(1=1)", -2006);
        fault("l000000(1=1)", -2006);
        fault("l1(t<123456)", -2010);
        fault("l1+123456(1=1)", -2008);
        fault("l[123456](1=1)", -2007);
        fault("l123456", -2006);
        fault("l12345", -1006);
        fault("l12345x6(1=1)", -1006);
    }

    private static void signs() {
        Museum.says("E: TERMS with + or - between two; a TERM: FACTORS with one of * / % between two");
        for (char sign : "+-*/%".toCharArray()) {
            fault("l1" + sign + "(1=1)", -1003);
            fault("l" + sign + "1(1=1)", -1001);
            fault("l1" + sign + sign + "1(1=1)", -1003);
            fault("l1(1=1" + sign + ")", -1007);
        }
        for (char sign : ",.:$&)'".toCharArray()) {
            fault("l1" + sign + "1(1=1)", -1002);
        }
        is("7-2-1", 4);
        is("8/2/2", 2);
        is("8/2*3%7", 5);
        is("9-8/4*3", 3);
        is("1+9%5*2", 9);
        is("[1+2]*3", 9);
        is("2*[1+2]", 6);
        Museum.says("a TEST: !TEST, (C), or E, one of < > =, and E");
        for (char sign : "<>=".toCharArray()) {
            fault("l1(1" + sign + ")", -1005);
            fault("l1(" + sign + "1)", -1003);
            fault("l1(1" + sign + sign + "1)", -1005);
            fault("l1(1" + sign + "1" + sign + "1)", -1006);
        }
        for (char sign : ";?!{".toCharArray()) {
            fault("l1(1" + sign + "1)", -1004);
        }
        fault("l1(!)", -1004);
        fault("l1(())", -1004);
        fault("l1((1)=1)", -1005);
        fault("l1([1=1])", -1005);
        fault("l1((1=1)=1)", -1008);
        fault("l[](1=1)", -1002);
        Museum.says("C: PARTS with a | between two; a PART: TESTS with an & between two");
        for (char sign : "|&".toCharArray()) {
            fault("l1(1=1" + sign + ")", -1007);
            fault("l1(" + sign + "1=1)", -1003);
            fault("l1(1=1" + sign + sign + "1=1)", -1007);
        }
        Museum.says("one of which must hold; all of which must");
        holds("1=2|1=1", true);
        holds("1=1|1=2", true);
        holds("1=2|1=2", false);
        holds("1=1&1=1", true);
        holds("1=2&1=1", false);
        holds("1=1&1=2", false);
        holds("1=1|1=1&1=2", true);
        holds("(1=1|1=1)&1=2", false);
        holds("!1=2&1=2", false);
        holds("!(1=2&1=2)", true);
        holds("!1=1|1=1", true);
        holds("!(1=1|1=1)", false);
        holds("1<1", false);
        holds("1<2", true);
        holds("2>1", true);
        holds("1>1", false);
        holds("!1<2", false);
        holds("!2<1", true);
        holds("!2>1", false);
        holds("!1>2", true);
        holds("!1=1", false);
    }

    private static void names() {
        Museum.says("q the MINUTE through 4 (in a, l, v, h)");
        Museum m = new Museum();
        m.law("lq(t<40);lq-14(1=1)");
        int[] minutes = {0, 3, 4, 7, 8, 35, 36, 39, 92, 95};
        int[] quarters = {0, 0, 1, 1, 2, 8, 9, 9, 9, 9};
        for (int i = 0; i < minutes.length; i++) {
            Museum.due("q in " + minutes[i], m.x.shadow(minutes[i], 0, 1), quarters[i]);
        }
        m.law("lt-88(t>80);lt(1=1)");
        Museum.due("t in 95", m.x.shadow(95, 0, 1), 7);
        Museum.due("t in 0", m.x.shadow(0, 0, 1), 0);
        Museum.says("u the SUN (0, 1; in a, l)");
        m.law("lu+3(1=1);au+3(1=1)");
        Museum.due("l by 0", m.x.shadow(0, 0, 1), 3);
        Museum.due("l by 1", m.x.shadow(0, 1, 1), 4);
        Museum.due("a by 0", m.x.shadow(0, 0, 0), 3);
        Museum.due("a by 1", m.x.shadow(0, 1, 0), 4);
        Museum.says("p the PERSON (in v, h, r), x, y where it is then (in v, h). (Where they are not told they are 0.)");
        m.plan(8, 0, "37e");
        m.plan(9, 0, "37e");
        m.x.sun(1);
        m.law("v9(t=1&q=0&u=0&p=8&x=4&y=7);h9(t=1&q=0&u=0&p=9&x=4&y=7);l4(p=0&x=0&y=0&u=1);a4(p=0&x=0&y=0&u=1)");
        Museum.due("v of 8 sees far", m.x.unseen(1, 0) < 80, true);
        Museum.due("v of 8 in minute 0", m.x.unseen(0, 0), 99);
        m.plan(8, 0, "97");
        Museum.due("h of 9 in minute 1", m.x.hears(8, 1), 1 << 9);
        Museum.due("h of 9 in minute 0", m.x.hears(8, 0), 0);
        Museum.due("h is asked of the one that is heard", m.x.hears(9, 1), 0);
        Museum.due("p, x, y are 0 in l", m.x.shadow(5, 1, 1), 4);
        Museum.due("p, x, y are 0 in a", m.x.shadow(5, 1, 0), 4);
        m.law("r9(t=0&q=0&u=0&p=9&x=0&y=0)");
        m.feed(9);
        Museum.due("r by p alone", m.x.sure(5, 1, 0), 9);
        m.feed(8);
        Museum.due("r of another one", m.x.sure(5, 1, 0), 0);
        for (char name : "abcdefghijklmnorsvwzTQUPXY".toCharArray()) {
            fault("l" + name + "(1=1)", -1001);
        }
    }

    private static void wrapAround() {
        Museum.says("All is reckoned with 32 bits, as the machine does");
        holds(MIN + "<0", true);
        holds(MIN + "-1>0", true);
        holds(MIN + "-1+1<0", true);
        holds("65536*32767+65535>0", true);
        holds("65536*32767+65536<0", true);
        holds("65536*65536=0", true);
        holds("65537*65537=65536*2+1", true);
        holds("0-[" + MIN + "]=" + MIN, true);
        holds("[" + MIN + "]*[0-1]<0", true);
        holds(MIN + "/[0-1]<0", true);
        holds(MIN + "/[0-1]=" + MIN, true);
        holds(MIN + "%[0-1]=0", true);
        holds(MIN + "<" + MIN + "-1", true);
        holds(MIN + "-1>" + MIN, true);
        holds("[0-7]/2=0-3", true);
        holds("[0-7]%2=0-1", true);
        holds("7/[0-2]=0-3", true);
        holds("7%[0-2]=1", true);
    }

    private static void divided() {
        Museum.says("what is divided by 0 is REFUSED: the whole E is 0");
        is("9+1/0", 0);
        is("9+1%0", 0);
        is("1/0+9", 0);
        is("1%0+9", 0);
        is("9+0*[1/0]", 0);
        is("9+[5/[u-1]]", 0);
        is("9+0/1", 9);
        is("9+0%1", 9);
        is("9-0/[u-2]", 9);
        Museum m = new Museum();
        m.law("l1/0(1=1);l5(1=1)");
        Museum.due("no later clause is asked", m.x.shadow(0, 0, 1), 0);
        m.plan(0, 0, "00");
        m.plan(1, 0, "10");
        m.law("v5/x(1=1);h5/x(1=1);r5/p(1=1)");
        Museum.due("in v, x 0", m.x.sees(0, 0), 0);
        Museum.due("in v, x 1", m.x.sees(1, 0), 1);
        Museum.due("in h, x 1", m.x.hears(0, 0), 2);
        Museum.due("in h, x 0", m.x.hears(1, 0), 0);
        m.feed(0);
        Museum.due("in r, p 0", m.x.sure(5, 1, 0), 0);
        m.feed(1);
        Museum.due("in r, p 1", m.x.sure(5, 1, 0), 1);
    }

    private static void refusedInC() {
        Museum.says("then the whole C that is asked does not hold");
        holds("1/0=1", false);
        holds("1%0=0", false);
        holds("!1/0=1", false);
        holds("!!1/0=1", false);
        holds("!(1/0=1)", false);
        holds("1=1/0", false);
        holds("1/0<1", false);
        holds("1/0>1", false);
        holds("1/0=1|1=1", false);
        holds("(1/0=1)|1=1", false);
        holds("!(1/0=1|1=1)|1=1", false);
        holds("1=1&1/0=0", false);
        holds("1=1&!1/0=1", false);
        Museum m = new Museum();
        m.law("l3(1/[t-5]<9);l4(1=1)");
        Museum.due("the next clause is asked", m.x.shadow(5, 0, 1), 4);
        Museum.due("in another minute it holds", m.x.shadow(6, 0, 1), 3);
        Museum.due("and ahead of it", m.x.shadow(4, 0, 1), 3);
    }

    private static void asMuchAsMatters() {
        Museum.says("Of a C as much is asked, from the left, as matters");
        holds("1=1|1/0=1", true);
        holds("1=1|(1/0=1&1=1)", true);
        holds("1=1|1/0=1|1=2", true);
        holds("1=2|1=1|1/0=1", true);
        holds("1=2&1/0=1|1=1", true);
        holds("1=2&1=1&1/0=1|1=1", true);
        holds("!(1=2&1/0=1)", true);
        holds("!(1=1|1/0=1)|1=1", true);
        holds("(1=1|1/0=1)&1=1", true);
        holds("(1=2|1/0=1)&1=1", false);
        holds("1=2&1/0=1", false);
        holds("1=2|1/0=1|1=1", false);
        holds("1=1&1=2|1/0=1|1=1", false);
    }

    private static void seventh() {
        Museum.says("5 a seventh of ( [ ! that are open in one another, at it (the ( of the CLAUSE counts)");
        fault("l1(((((((1=1)))))))", -5008);
        fault("l1([[[[[[1]]]]]]=1)", -5008);
        fault("l1(1=[[[[[[1]]]]]])", -5010);
        fault("l1(!!!!!!1=1)", -5008);
        fault("l1((!(!([1]=1))))", -5008);
        fault("l1((((([1]+[[1]]=1)))))", -5012);
        fault("l1(((((!", -1008);
        fault("l1((((((!", -5008);
        holds("(((((1=1)))))", true);
        holds("[[[[[1]]]]]=1", true);
        holds("1=[[[[[1]]]]]", true);
        holds("!!!!1=1", true);
        holds("!!!!!1=1", false);
        holds("(((([1]=1))))", true);
        Museum.says("a ! is open till its TEST ends");
        fault("l1((((!(1=1&([1]=1))))))", -5012);
        holds("((((!1=2&[1]=1))))", true);
        holds("((((!1=2&!1=2))))", true);
        holds("((((!1=2|!1=2))))", true);
        holds("(((!!1=1&[1]=1)))", true);
        fault("l1((((!([1]=1)))))", -5008);
        Museum.says("the E of a CLAUSE stands ahead of it");
        is("[[[[[[1]]]]]]", 1);
        is("[[[[[[1]]]]]]+[[[[[[1]]]]]]", 2);
        fault("l[[[[[[[1]]]]]]](1=1)", -5007);
        fault("l[1+[[[[[[1]]]]]]](1=1)", -5009);
        is("[[[[[[1]]]]]+[[1]]]", 2);
        Museum m = new Museum();
        Museum.due("six in E, then six in C", m.law("l[[[[[[4]]]]]]((((((1=1))))))"), 1);
        Museum.due("holds", m.x.shadow(0, 0, 1), 4);
    }

    private static void theEnd() {
        Museum.says("1 what can't stand there (the end, too)");
        String text = "l[1+t]*2(!(t<9&u=1)|x=12345);a7(1=1)";
        for (int n = 1; n <= text.length(); n++) {
            Museum m = new Museum();
            boolean whole = n == 28 || n == text.length();
            int want = n == 28 ? 1 : whole ? 2 : -1000 - n;
            Museum.due(text.substring(0, n), m.law(text.substring(0, n)), want);
        }
        Museum.says("FAULTS, the first from the left");
        fault("l1(((((((1=123456)))))))", -5008);
        fault("l123456(((((((1=1)))))))", -2006);
        fault("lz(123456=1)", -1001);
    }

    private static void theOneBeforeStays() {
        Museum.says("a FAULT (the one before stays)");
        Museum m = new Museum();
        m.law("l5(1=1);a3(1=1)");
        String full = Museum.row("l1(1=1)", ";", 16);
        String[] texts = {"l6(1=1);", "l123456(1=1)", full + ";l", "l6(1=1);l6(((((((1=1)))))))"};
        int[] wants = {-1008, -2006, -4128, -5016};
        for (int i = 0; i < texts.length; i++) {
            Museum.due(texts[i], m.law(texts[i]), wants[i]);
            Museum.due("clauses", m.x.count(2), 2);
            Museum.due("l", m.x.shadow(0, 0, 1), 5);
        }
        Museum.says("in place of the one before");
        Museum.due("another law", m.law("a4(1=1)"), 1);
        Museum.due("clauses", m.x.count(2), 1);
        Museum.due("l", m.x.shadow(0, 0, 1), 0);
        Museum.due("a", m.x.shadow(0, 0, 0), 4);
    }

    private static void shadow() {
        Museum.says("THE SHADOW in a MINUTE by a SUN; NONE: no such ones");
        Museum m = new Museum();
        m.law("a7(t=95);l9(t=95);a1(1=1);l2(1=1)");
        Museum.due("minute 95", m.x.shadow(95, 0, 0), 7);
        Museum.due("minute 95", m.x.shadow(95, 1, 1), 9);
        Museum.due("minute 0", m.x.shadow(0, 1, 0), 1);
        int[][] refused = {{96, 0, 0}, {-1, 0, 0}, {0, 2, 0}, {0, -1, 0}, {0, 0, 2}, {0, 0, -1},
            {Integer.MAX_VALUE, 0, 0}, {Integer.MIN_VALUE, 0, 0}, {0, Integer.MAX_VALUE, 0}, {0, 0, Integer.MIN_VALUE}};
        for (int[] c : refused) {
            Museum.due("shadow(" + c[0] + ", " + c[1] + ", " + c[2] + ")", m.x.shadow(c[0], c[1], c[2]), -1);
        }
    }
}
