/** Promises 5 (law) and 15 (shadow): clauses, what they say, their bounds and faults. */
public final class LawTest {
    public static void main(String[] args) {
        clauses();
        bounds();
        names();
        sums();
        conditions();
        refusedByZero();
        faults();
        depths();
        refused();
        Museum.end("LawTest");
    }

    /** Whether a C holds in minute 30 by sun 1. */
    private static void holds(String condition, boolean want) {
        Museum m = new Museum();
        Museum.due("law l1(" + condition + ")", m.law("l1(" + condition + ")"), 1);
        Museum.due(condition, m.x.shadow(30, 1, 1), want ? 1 : 0);
    }

    private static void clauses() {
        Museum m = new Museum();
        Museum.due("no law", m.x.shadow(0, 0, 0), 0);
        Museum.due("count(2)", m.x.count(2), 0);
        Museum.due("three clauses", m.law("a3(t<5);a4(t<10);l7(u=1)"), 3);
        Museum.due("count(2)", m.x.count(2), 3);
        Museum.due("the first that holds", m.x.shadow(4, 0, 0), 3);
        Museum.due("the next", m.x.shadow(5, 0, 0), 4);
        Museum.due("none", m.x.shadow(10, 0, 0), 0);
        Museum.due("l by sun 0", m.x.shadow(4, 0, 1), 0);
        Museum.due("l by sun 1", m.x.shadow(4, 1, 1), 7);
        Museum.due("16 clauses", m.law(Museum.row("a1(1=1)", ";", 16)), 16);
        Museum.due("in place of the one before", m.x.shadow(4, 1, 1), 0);
        Museum.due("no such minute", m.x.shadow(96, 0, 0), -1);
        Museum.due("no such minute", m.x.shadow(-1, 0, 0), -1);
        Museum.due("no such sun", m.x.shadow(0, 2, 0), -1);
        Museum.due("no such sun", m.x.shadow(0, -1, 0), -1);
        Museum.due("no such what", m.x.shadow(0, 0, 2), -1);
        Museum.due("no such what", m.x.shadow(0, 0, -1), -1);
        Museum.due("minute 95", m.x.shadow(95, 1, 0), 1);
    }

    private static void bounds() {
        Museum m = new Museum();
        m.law("a99(t=0);a8(t=1);a7(t=2);a0-1(t=3);l10(t=0);l9(t=1);l0-5(t=2)");
        Museum.due("a 99", m.x.shadow(0, 0, 0), 7);
        Museum.due("a 8", m.x.shadow(1, 0, 0), 7);
        Museum.due("a 7", m.x.shadow(2, 0, 0), 7);
        Museum.due("a -1", m.x.shadow(3, 0, 0), 0);
        Museum.due("l 10", m.x.shadow(0, 0, 1), 9);
        Museum.due("l 9", m.x.shadow(1, 0, 1), 9);
        Museum.due("l -5", m.x.shadow(2, 0, 1), 0);
        m.plan(0, 0, "00");
        m.plan(1, 0, "90");
        m.law("v8(t=0);v9(t=1);h8(t=0);h9(t=1)");
        Museum.due("v 8", m.x.sees(0, 0), 0);
        Museum.due("v 9", m.x.sees(0, 1), 2);
        Museum.due("h 8", m.x.hears(0, 0), 0);
        Museum.due("h 9", m.x.hears(0, 1), 2);
        m.plan(1, 0, "99");
        m.law("h17(t=0);h18(t=1);h99999(t=2);h0-99999(t=3)");
        Museum.due("h 17", m.x.hears(0, 0), 0);
        Museum.due("h 18", m.x.hears(0, 1), 2);
        Museum.due("h 99999", m.x.hears(0, 2), 2);
        Museum.due("h -99999", m.x.hears(0, 3), 0);
        m.law("r11(1=1)");
        m.feed(0);
        Museum.due("r 11 is 10: sure", m.x.sure(5, 1, 1), 1);
        m.law("r0-1(1=1)");
        m.feed(16);
        Museum.due("r -1 is 0: it was, for it says no", m.x.sure(5, 1, 0), 1);
    }

    private static void names() {
        Museum m = new Museum();
        m.law("aq(t>7);at(1=1);lu+1(1=1)");
        Museum.due("q", m.x.shadow(11, 0, 0), 2);
        Museum.due("q", m.x.shadow(12, 0, 0), 3);
        Museum.due("t", m.x.shadow(6, 0, 0), 6);
        Museum.due("u 0", m.x.shadow(6, 0, 1), 1);
        Museum.due("u 1", m.x.shadow(6, 1, 1), 2);
        m.law("ax+y+p+1(1=1);l[p+1]*[x+1]*[y+1](p=0)");
        Museum.due("x, y, p are 0 in a", m.x.shadow(6, 1, 0), 1);
        Museum.due("x, y, p are 0 in l", m.x.shadow(6, 1, 1), 1);
        m.plan(2, 0, "34");
        m.plan(5, 0, "37");
        m.law("v3(p=2&x=3&y=4&u=0&q=2&t=9);h7(p=5&x=3&y=7&u=0&q=2)");
        Museum.due("v has t, q, p, x, y", m.x.sees(2, 9), 32);
        Museum.due("v has t", m.x.sees(2, 10), 0);
        Museum.due("v of the other one", m.x.sees(5, 9), 0);
        Museum.due("h is asked of the one that is heard", m.x.hears(2, 9), 32);
        Museum.due("not of the one that hears", m.x.hears(5, 9), 0);
        m.x.sun(1);
        Museum.due("no sun in v", m.x.sees(2, 9), 32);
        m.law("r7(p=2&t=0&q=0&u=0&x=0&y=0);r4(1=1)");
        m.feed(2);
        Museum.due("r has p alone", m.x.sure(5, 1, 0), 7);
        m.feed(5);
        Museum.due("r of another one", m.x.sure(5, 1, 0), 2);
    }

    private static void sums() {
        holds("1+2*3=7", true);
        holds("10-3-2=5", true);
        holds("20/3/2=3", true);
        holds("10-2*3=4", true);
        holds("20-12/4=17", true);
        holds("20-7%4=17", true);
        holds("2*9-4=14", true);
        holds("2+6/3=4", true);
        holds("6/3+2=4", true);
        holds("1+7%4=4", true);
        holds("7%4+1=4", true);
        holds("2*3+4*5-6/2=23", true);
        holds("20/[3/2]=20", true);
        holds("2*7%4=2", true);
        holds("7%4*2=6", true);
        holds("[1+2]*3=9", true);
        holds("[[[[[5]]]]]=5", true);
        holds("0-7/2=0-3", true);
        holds("[0-7]/2=0-3", true);
        holds("[0-7]%4=0-3", true);
        holds("7%[0-4]=3", true);
        holds("99999=99999", true);
        holds("00012=12", true);
        holds("t=30&u=1&q=7", true);
    }

    private static void conditions() {
        holds("1<2", true);
        holds("2<2", false);
        holds("3>2", true);
        holds("2>2", false);
        holds("2=2", true);
        holds("2=3", false);
        holds("!2=3", true);
        holds("!!2=2", true);
        holds("!1<2", false);
        holds("!2<1", true);
        holds("!2>1", false);
        holds("!1>2", true);
        holds("!1=1|1=1", true);
        holds("!(1=1|1=1)", false);
        holds("1=2|1=1&1=2", false);
        holds("1=1|1=1&1=2", true);
        holds("(1=1|1=1)&1=2", false);
        holds("1=1&1=1&1=1", true);
        holds("1=1&1=2&1=1", false);
        holds("1=2|1=3|1=1", true);
        holds("1=2|1=3|1=4", false);
        holds("1=2&1=1|1=1", true);
        holds("!1=2&!1=3", true);
        holds("((((1=1))))", true);
        holds("t+1>[t]", true);
        // 32 bits: 99999 * 99999 is 9999800001, less two times 4294967296 it is 1409865409
        holds("99999*99999/10000=14098*10+6", true);
        holds("46341*46341<0", true);
        holds("46340*46340>0", true);
        holds("[0-32768]*32768*2/[0-1]<0", true);
    }

    private static void refusedByZero() {
        Museum m = new Museum();
        m.law("l5/[t-3](1=1)");
        Museum.due("a refused E is 0", m.x.shadow(3, 0, 1), 0);
        Museum.due("else it is not", m.x.shadow(4, 0, 1), 5);
        m.law("l7+5%[t-3](1=1);l4(1=1)");
        Museum.due("the whole E is 0, and no later clause is asked", m.x.shadow(3, 0, 1), 0);
        Museum.due("else it is not", m.x.shadow(5, 0, 1), 8);
        m.law("l7(1/[t-3]=1);l4(1=1)");
        Museum.due("a refused C does not hold", m.x.shadow(3, 0, 1), 4);
        Museum.due("else it may", m.x.shadow(4, 0, 1), 7);
        m.law("l7(!1/[t-3]=1)");
        Museum.due("nor with a !", m.x.shadow(3, 0, 1), 0);
        m.law("l7(!(1/[t-3]=1|1=1)|1=1)");
        Museum.due("the whole C does not", m.x.shadow(3, 0, 1), 0);
        m.law("l7(1=1|1/[t-3]=1)");
        Museum.due("as much is asked as matters: or", m.x.shadow(3, 0, 1), 7);
        m.law("l7(1=2&1/[t-3]=1|1=1)");
        Museum.due("as much is asked as matters: and", m.x.shadow(3, 0, 1), 7);
        m.law("l7(1/[t-3]=1|1=1)");
        Museum.due("from the left", m.x.shadow(3, 0, 1), 0);
        m.law("l7(1=2&(1/0=1)|1=1&!1%0=0)");
        Museum.due("what is asked then", m.x.shadow(3, 0, 1), 0);
        m.law("l7((1=1|1/0=1)&1=1)");
        Museum.due("in brackets, too", m.x.shadow(3, 0, 1), 7);
    }

    private static void faults() {
        Museum m = new Museum();
        m.law("l5(1=1)");
        Museum.due("another letter", m.law("b5(1=1)"), -1000);
        Museum.due("no E", m.law("a(1=1)"), -1001);
        Museum.due("no C", m.law("a1()"), -1003);
        Museum.due("no (", m.law("a1"), -1002);
        Museum.due("no )", m.law("a1(1=1"), -1006);
        Museum.due("no comparison", m.law("a1(1)"), -1004);
        Museum.due("two comparisons", m.law("a1(1=1=1)"), -1006);
        Museum.due("no right side", m.law("a1(1=)"), -1005);
        Museum.due("a sign ahead", m.law("a-1(1=1)"), -1001);
        Museum.due("two operators", m.law("a1+*2(1=1)"), -1003);
        Museum.due("a comparison in E", m.law("a1=1(1=1)"), -1002);
        Museum.due("a ( in E", m.law("a1+(2)(1=1)"), -1003);
        Museum.due("a [ round a C", m.law("a1([1=1])"), -1005);
        Museum.due("a [ for a (", m.law("a1([1)=1)"), -1005);
        Museum.due("another name", m.law("a1(z=1)"), -1003);
        Museum.due("a blank", m.law("a1 (1=1)"), -1002);
        Museum.due("behind a clause", m.law("a1(1=1)a"), -1007);
        Museum.due("the end behind ;", m.law("a1(1=1);"), -1008);
        Museum.due("the end behind &", m.law("a1(1=1&"), -1007);
        Museum.due("the end behind a letter", m.law("v"), -1001);
        Museum.due("a sixth digit", m.law("a123456(1=1)"), -2006);
        Museum.due("a sixth digit in C", m.law("a1(t<000001)"), -2010);
        Museum.due("five digits", m.law("l00005(1=1)"), 1);
        String full = Museum.row("a1(1=1)", ";", 16);
        Museum.due("17 clauses", m.law(full + ";r1(1=1)"), -4128);
        Museum.due("17 clauses, by no letter", m.law(full + ";x"), -1128);
        Museum.due("16 clauses and the end", m.law(full + ";"), -1128);
        Museum.due("the law before stays", m.x.shadow(0, 0, 1), 5);
        Museum.due("its clauses", m.x.count(2), 1);
        Museum.due("the tape is empty", m.x.count(3), 0);
    }

    private static void depths() {
        Museum m = new Museum();
        Museum.due("six (", m.law("l1((((((1=1))))))"), 1);
        Museum.due("a seventh (", m.law("l1(((((((1=1)))))))"), -5008);
        Museum.due("six [ in an E", m.law("l[[[[[[1]]]]]](1=1)"), 1);
        Museum.due("a seventh [ in an E", m.law("l[[[[[[[1]]]]]]](1=1)"), -5007);
        Museum.due("five [ in a C", m.law("l1([[[[[1]]]]]=1)"), 1);
        Museum.due("a sixth [ in a C", m.law("l1([[[[[[1]]]]]]=1)"), -5008);
        Museum.due("on the right side, too", m.law("l1(1=[[[[[[1]]]]]])"), -5010);
        Museum.due("five !", m.law("l1(!!!!!1=1)"), 1);
        Museum.due("five ! turn", m.x.shadow(0, 0, 1), 0);
        Museum.due("a sixth !", m.law("l1(!!!!!!1=1)"), -5008);
        Museum.due("a ! is open in its test", m.law("l1(!(!([1]=1)))"), 1);
        Museum.due("a ! is open in its test", m.law("l1(!!(!([1]=1)))"), -5008);
        Museum.due("a ! is open till its test ends", m.law("l1(!!!!!1=1&!!!!!1=1)"), 1);
        Museum.due("of both sides", m.law("l1(!!!([1]=1&[[1]]=1))"), -5014);
        Museum.due("brackets that end are open no more", m.law("l1(((((1=1))))&((((1=1)))))"), 1);
        Museum.due("the E of a clause stands ahead of its (", m.law("l[[[[[[1]]]]]]([[[[[1]]]]]=1)"), 1);
    }

    private static void refused() {
        Museum m = new Museum();
        Museum.due("an empty tape", m.x.law(1), -1);
        m.feed("l5(1=1)");
        Museum.due("0 bytes", m.x.law(0), -1);
        Museum.due("-1 bytes", m.x.law(-1), -1);
        Museum.due("21 bytes", m.x.law(21), -1);
        Museum.due("the tape stays", m.x.count(3), 20);
        Museum.due("7 bytes", m.x.law(7), 1);
        m.feed(Museum.times("l5(1=1);", 32));
        Museum.due("260 on the tape", m.x.count(3), 260);
        Museum.due("241 bytes", m.x.law(241), -1);
        Museum.due("240 bytes", m.x.law(240), -4128);
        StringBuilder longest = new StringBuilder("l1(t");
        for (int i = 0; i < 116; i++) {
            longest.append("+t");
        }
        Museum.due("a long sum", m.law(longest + "=30)"), 1);
        Museum.due("in minute 0", m.x.shadow(0, 0, 1), 0);
        Museum.due("a long row of tests", m.law("l1(" + Museum.times("1=2|", 58) + "1=1)"), 1);
        Museum.due("the last of which holds", m.x.shadow(0, 0, 1), 1);
        Museum.due("a row of tests of which none holds", m.law("l1(" + Museum.times("1=2|", 58) + "1=3)"), 1);
        Museum.due("none holds", m.x.shadow(0, 0, 1), 0);
    }
}
