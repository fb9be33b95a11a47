/** Edges of DAYS: promises 18 (best), 19 (struck), 20 (quarrel), 21 (ask) and 22 (enough). */
public final class DaysEdgeTest {
    public static void main(String[] args) {
        howMany();
        tooMany();
        order();
        best();
        struck();
        ofLikeOnes();
        quarrelOfOne();
        quarrelOfTwo();
        quarrelOfThree();
        quarrelOfFour();
        quarrelOverAllDays();
        eachDayAlone();
        askNobody();
        askTies();
        askOfBestAlone();
        enoughEnds();
        enoughLeastBits();
        enoughFollows();
        enoughOfMost();
        wrong();
        Museum.end("DaysEdgeTest");
    }

    /** People 0, 1, .. with so many versions, those of p at (p, 0), (p, 1), (p, 2). */
    private static Museum people(int... versions) {
        Museum m = new Museum();
        for (int p = 0; p < versions.length; p++) {
            for (int v = 0; v < versions[p]; v++) {
                m.plan(p, v, "" + p + v);
            }
        }
        return m;
    }

    private static void howMany() {
        Museum.says("DAYS are all that there can be (2 for each row of VERSIONS)");
        Museum.due("nobody", new Museum().x.best(3), 2);
        Museum.due("one version", people(1).x.best(3), 2);
        Museum.due("ten people, one version each", people(1, 1, 1, 1, 1, 1, 1, 1, 1, 1).x.best(3), 2);
        Museum.due("two versions", people(2).x.best(3), 4);
        Museum.due("three versions", people(3).x.best(3), 6);
        Museum.due("two and three", people(2, 1, 3).x.best(3), 12);
        Museum m = people(1);
        m.plan(0, 2, "99");
        Museum.due("versions 0 and 2", m.x.best(3), 4);
        m.plan(0, 2, "55");
        Museum.due("in place of the one before", m.x.best(3), 4);
    }

    private static void tooMany() {
        Museum.says("if there are more than 1458: TOO MANY");
        Museum m = people(3, 3, 3, 3, 2, 2, 2, 1, 1, 1);
        Museum.due("1296", m.x.best(3), 1296);
        m = people(2, 2, 2, 2, 2, 2, 2, 2, 2, 1);
        Museum.due("1024", m.x.best(3), 1024);
        m = people(3, 3, 3, 3, 3, 3, 1, 1, 1, 1);
        Museum.due("1458", m.x.best(3), 1458);
        Museum.due("1458: struck", m.x.struck(), 0);
        Museum.due("1458: quarrel", m.x.quarrel(0), -2);
        Museum.due("1458: ask", m.x.ask(3), 1458);
        Museum.due("1458: enough", m.x.enough(1), 1458);
        m = people(2, 2, 2, 2, 2, 2, 2, 2, 3, 1);
        all(m, "1536");
        m = people(2, 2, 2, 2, 2, 2, 2, 2, 2, 2);
        all(m, "2048");
        m = people(3, 3, 3, 3, 3, 3, 3, 3, 3, 3);
        all(m, "118098");
        Museum.says("NONE: no such what, ahead of TOO MANY");
        wrongWhats(m);
        Museum.due("THE DAY stays", m.x.at(3, 0), 3);
        Museum.due("told stays", m.x.told(1), -2);
    }

    private static void all(Museum m, String days) {
        for (int what = 0; what < 4; what++) {
            Museum.due(days + ": best(" + what + ")", m.x.best(what), -3);
            Museum.due(days + ": ask(" + what + ")", m.x.ask(what), -3);
        }
        for (int what = 10; what < 20; what++) {
            Museum.due(days + ": best(" + what + ")", m.x.best(what), -3);
        }
        for (int what = 0; what < 5; what++) {
            Museum.due(days + ": quarrel(" + what + ")", m.x.quarrel(what), -3);
        }
        Museum.due(days + ": enough(0)", m.x.enough(0), -3);
        Museum.due(days + ": enough(1)", m.x.enough(1), -3);
        Museum.due(days + ": struck()", m.x.struck(), -3);
    }

    private static void wrongWhats(Museum m) {
        for (int what : new int[] {-1, 5, 9, 20, Integer.MAX_VALUE, Integer.MIN_VALUE}) {
            Museum.due("best(" + what + ")", m.x.best(what), -1);
            Museum.due("quarrel(" + what + ")", m.x.quarrel(what), -1);
            Museum.due("ask(" + what + ")", m.x.ask(what), -1);
            Museum.due("enough(" + what + ")", m.x.enough(what), -1);
        }
        Museum.due("best(4)", m.x.best(4), -1);
        Museum.due("ask(4)", m.x.ask(4), -1);
        Museum.due("enough(2)", m.x.enough(2), -1);
    }

    private static void order() {
        Museum.says("in order: by PEOPLE (the lowest first) their VERSIONS, the SUN last; of like ones the first");
        Museum m = people(3, 2, 3);
        m.reports("b0i11;a0~0i01;a0i02");
        Museum.due("both of a's and b's", m.x.best(0), 2);
        Museum.due("a's least", m.x.best(10), 1);
        m = people(1, 2, 2, 1, 3);
        m.reports("b0i11;c0i20;e0i41");
        Museum.due("one version beside two, and three: hold", m.x.best(0), 3);
        Museum.due("as many", m.x.best(2), 2);
        Museum.due("b", m.x.best(11), 1);
        Museum.due("c", m.x.best(12), 0);
        Museum.due("d", m.x.best(13), 0);
        Museum.due("e", m.x.best(14), 1);
        m = people(2, 2);
        m.reports("a0i01;b0i11;a0i00;b0i10");
        Museum.due("any", m.x.best(2), 8);
        Museum.due("a", m.x.best(10), 0);
        Museum.due("b", m.x.best(11), 0);
        m.reports("a0i01;b0wa00;b0i11");
        // now a's versions hold two each, b's version 1 holds two, its version 0 one
        Museum.due("four", m.x.best(0), 4);
        Museum.due("of like ones the first: a", m.x.best(10), 0);
        Museum.due("of like ones the first: b", m.x.best(11), 1);
        Museum.due("of like ones the first: the sun", m.x.best(1), 0);
        Museum.due("as many", m.x.best(2), 4);
        m = people(2);
        m.law("a1(u=1)");
        m.reports("a0f00;a0i01;a0f10;a0i00");
        Museum.due("any, by any sun", m.x.best(2), 4);
        Museum.due("version", m.x.best(10), 0);
        Museum.due("sun", m.x.best(1), 0);
        m.reports("a1f10;a1i01");
        Museum.due("one", m.x.best(2), 1);
        Museum.due("version", m.x.best(10), 1);
        Museum.due("sun", m.x.best(1), 1);
        m.reports("a2f00;a2i00");
        Museum.due("the sun is last: version 0 by either", m.x.best(2), 4);
        Museum.due("version", m.x.best(10), 0);
        Museum.due("sun", m.x.best(1), 0);
    }

    private static void best() {
        Museum.says("how many hold; its VERSIONS, its SUN; in how many DAYS as many do");
        Museum m = people(3, 1, 3);
        m.reports("a0i02;c0i21");
        Museum.due("hold", m.x.best(0), 2);
        Museum.due("a", m.x.best(10), 2);
        Museum.due("b", m.x.best(11), 0);
        Museum.due("c", m.x.best(12), 1);
        Museum.due("nobody", m.x.best(13), -1);
        Museum.due("nobody", m.x.best(19), -1);
        Museum.due("as many", m.x.best(2), 2);
        Museum.due("the day that is chosen stays", m.x.at(0, 0), 0);
        m = people(1, 1, 1, 1, 1, 1, 1, 1, 1, 3);
        m.reports("j0i92");
        Museum.due("the last person", m.x.best(19), 2);
        Museum.says("no REPORT: all DAYS are like ones");
        m.x.strike(0);
        Museum.due("hold", m.x.best(0), 0);
        Museum.due("as many", m.x.best(2), 6);
        Museum.due("the last person", m.x.best(19), 0);
        Museum.says("no REPORT holds in any DAY");
        m.reports("j0i55;j0i56");
        Museum.due("hold", m.x.best(0), 0);
        Museum.due("as many", m.x.best(2), 6);
        Museum.due("struck", m.x.struck(), 3);
    }

    private static void struck() {
        Museum.says("STRUCK: those that do not hold in it (as bits)");
        Museum m = people(1, 1);
        Museum.due("of none", m.x.struck(), 0);
        m.reports(Museum.row("a0sb", ";", 20));
        m.reports(Museum.row("a0ob", ";", 19));
        Museum.due("the first 20", m.x.struck(), 0xFFFFFL);
        m.reports("a0sb");
        Museum.due("the 40th, too", m.x.struck(), 0x80000FFFFFL);
        Museum.due("19 hold", m.x.best(0), 19);
        for (int i = 0; i < 19; i++) {
            m.x.strike(20);
        }
        Museum.due("21, all of them", m.x.struck(), 0x1FFFFFL);
        m.reports(Museum.row("a0sb", ";", 19));
        Museum.due("40, all of them", m.x.struck(), 0xFFFFFFFFFFL);
    }

    private static void ofLikeOnes() {
        Museum.says("40 REPORTS that all hold");
        Museum m = people(2, 1);
        m.reports(Museum.row("a0i01", ";", 33));
        m.reports(Museum.row("a1i01", ";", 7));
        Museum.due("hold", m.x.best(0), 40);
        Museum.due("version", m.x.best(10), 1);
        Museum.due("struck", m.x.struck(), 0);
        Museum.due("no quarrel", m.x.quarrel(0), -2);
        Museum.due("held in THE DAY", m.x.told(0), 0);
    }

    private static void quarrelOfOne() {
        Museum.says("A QUARREL: the fewest REPORTS (1 to 3) of which in no DAY all hold");
        Museum m = people(2, 1);
        Museum.due("of no reports", m.x.quarrel(0), -2);
        Museum.due("of no reports, rows", m.x.quarrel(4), 0);
        m.reports("a0i00;b0i10");
        Museum.due("of reports that all hold", m.x.quarrel(0), -2);
        for (int what = 1; what <= 3; what++) {
            Museum.due("what " + what, m.x.quarrel(what), -2);
        }
        m.reports("b0i99;a0i01;b1i99");
        Museum.due("one that never holds", m.x.quarrel(0), 1);
        Museum.due("the least", m.x.quarrel(1), 2);
        Museum.due("not so many", m.x.quarrel(2), -2);
        Museum.due("not so many", m.x.quarrel(3), -2);
        Museum.due("two of them", m.x.quarrel(4), 2);
        m.x.gives(1);
        Museum.due("fewest are two then", m.x.quarrel(0), 2);
        m = people(1);
        m.reports(Museum.row("a0i99", ";", 33));
        m.reports(Museum.row("a0i99", ";", 7));
        Museum.due("40 rows of one", m.x.quarrel(4), 40);
        Museum.due("the least", m.x.quarrel(1), 0);
    }

    private static void quarrelOfTwo() {
        Museum.says("the least row of so many (rising); how many such rows");
        Museum m = people(3);
        m.reports("a0i00;a1i00;a0i01;a1i01;a0i02");
        Museum.due("two", m.x.quarrel(0), 2);
        Museum.due("first", m.x.quarrel(1), 0);
        Museum.due("second", m.x.quarrel(2), 2);
        Museum.due("not so many", m.x.quarrel(3), -2);
        Museum.due("4 and 2 and 2", m.x.quarrel(4), 8);
        m.x.strike(0);
        m.x.strike(0);
        Museum.due("first", m.x.quarrel(1), 0);
        Museum.due("second", m.x.quarrel(2), 2);
        Museum.due("rows", m.x.quarrel(4), 2);
        Museum.says("by SUNS, too");
        m = people(1);
        m.law("a3(u=1)");
        m.reports("a0i00;a0f00;a5i00;a0f30");
        Museum.due("two", m.x.quarrel(0), 2);
        Museum.due("first", m.x.quarrel(1), 1);
        Museum.due("second", m.x.quarrel(2), 3);
        Museum.due("one row", m.x.quarrel(4), 1);
    }

    private static void quarrelOfThree() {
        Museum.says("three of which in no DAY all hold");
        Museum m = new Museum();
        // at (5, 5) in minute 1: versions 1, 2; in 2: versions 0, 2; in 3: versions 0, 1; in 0: all
        m.plan(0, 0, "55ns.");
        m.plan(0, 1, "55.ns");
        m.plan(0, 2, "55..n");
        m.reports("a0i55;a1i55;a0i55;a2i55;a0i55");
        Museum.due("version 2 holds all", m.x.quarrel(0), -2);
        m.reports("a3i55");
        Museum.due("three", m.x.quarrel(0), 3);
        Museum.due("first", m.x.quarrel(1), 1);
        Museum.due("second", m.x.quarrel(2), 3);
        Museum.due("third", m.x.quarrel(3), 5);
        Museum.due("one row", m.x.quarrel(4), 1);
        m.reports("a3i55;a2i55");
        Museum.due("one of 1, two of 2, two of 3", m.x.quarrel(4), 4);
        Museum.due("the least: first", m.x.quarrel(1), 1);
        Museum.due("the least: second", m.x.quarrel(2), 3);
        Museum.due("the least: third", m.x.quarrel(3), 5);
        m.x.strike(3);
        Museum.due("the least: second", m.x.quarrel(2), 4);
        Museum.due("the least: third", m.x.quarrel(3), 6);
        Museum.due("one of 1, one of 2, two of 3", m.x.quarrel(4), 2);
        m.reports("a3i56;a1i56");
        Museum.due("two are fewer", m.x.quarrel(0), 2);
        m.reports("a9i99");
        Museum.due("one is fewer", m.x.quarrel(0), 1);
    }

    private static void quarrelOfFour() {
        Museum.says("1 to 3; -2: none of these");
        Museum m = new Museum();
        m.plan(0, 0, "00");
        m.plan(0, 1, "50");
        m.plan(1, 0, "00.3e8.8.8.eee");
        m.plan(1, 1, "109.we9.9.7.eeee");
        // a and b are on one spot in 1, 10, 30, 40 by one row of versions each, so each report fails by one row
        m.reports("a1ob;a10ob;a30ob;a40ob");
        Museum.due("three of four hold", m.x.best(0), 3);
        Museum.due("in all days", m.x.best(2), 8);
        Museum.due("four quarrel, which is none of these", m.x.quarrel(0), -2);
        for (int what = 1; what <= 3; what++) {
            Museum.due("what " + what, m.x.quarrel(what), -2);
        }
        Museum.due("rows", m.x.quarrel(4), 0);
        m.plan(1, 1, "109.we9.9.");
        Museum.due("all hold by a row then", m.x.best(0), 4);
    }

    private static void quarrelOverAllDays() {
        Museum.says("in no DAY: of 1458");
        Museum m = people(3, 3, 3, 3, 3, 3);
        for (int p = 0; p < 6; p++) {
            String who = "" + (char) ('a' + p);
            for (int v = 0; v < 3; v++) {
                m.reports(who + "0i" + p + v + ";" + who + "1i" + p + v);
            }
        }
        Museum.due("36 reports", m.x.count(1), 36);
        Museum.due("12 hold", m.x.best(0), 12);
        Museum.due("in all days", m.x.best(2), 1458);
        Museum.due("the first", m.x.struck(), 0xF3CF3CF3CL);
        Museum.due("two of one person", m.x.quarrel(0), 2);
        Museum.due("first", m.x.quarrel(1), 0);
        Museum.due("second", m.x.quarrel(2), 2);
        Museum.due("12 for each person", m.x.quarrel(4), 72);
        m.law("a1(u=1)");
        m.reports("a0f00;a0f10");
        Museum.due("and the suns", m.x.quarrel(4), 73);
        m.reports("a2i02;f2i52");
        Museum.due("the last versions", m.x.best(10), 2);
        Museum.due("the last versions", m.x.best(15), 2);
        Museum.due("the others", m.x.best(14), 0);
        Museum.due("as many", m.x.best(2), 162);
    }

    /** Three reports that hold together in one day alone, whichever day it is: they don't quarrel. */
    private static void eachDayAlone() {
        Museum.says("of which in no DAY all hold: each of 72 DAYS in turn is the only one");
        String[] as = {"00", "10", "20"};
        String[] cs = {"05", "15"};
        for (int day = 0; day < 72; day++) {
            int[] of = {day / 24, day / 8 % 3, day / 4 % 2, day / 2 % 2, day % 2};
            Museum m = new Museum();
            for (int v = 0; v < 3; v++) {
                m.plan(0, v, as[v]);
                m.plan(1, v, v == of[1] ? as[of[0]] : "9" + (9 - v));
            }
            for (int v = 0; v < 2; v++) {
                m.plan(2, v, cs[v]);
                m.plan(3, v, v == of[3] ? cs[of[2]] : "8" + (9 - v));
            }
            m.law("a1(u=1)");
            m.reports("a0sb;c0sd;b0f" + of[4] + "0");
            Museum.due("day " + day + ": days", m.x.best(3), 72);
            Museum.due("day " + day + ": hold", m.x.best(0), 3);
            Museum.due("day " + day + ": as many", m.x.best(2), 1);
            Museum.due("day " + day + ": no quarrel", m.x.quarrel(0), -2);
            Museum.due("day " + day + ": the sun", m.x.best(1), of[4]);
            for (int p = 0; p < 4; p++) {
                Museum.due("day " + day + ": version of " + p, m.x.best(10 + p), of[p]);
            }
            m.reports("b0f" + (1 - of[4]) + "0");
            Museum.due("day " + day + ": the suns quarrel", m.x.quarrel(4), 1);
        }
    }

    private static void askNobody() {
        Museum.says("-2: nobody is told");
        Museum m = new Museum();
        Museum.due("who", m.x.ask(0), -2);
        Museum.due("when", m.x.ask(1), -2);
        Museum.due("all days, as nothing parts them", m.x.ask(2), 2);
        Museum.due("days", m.x.ask(3), 2);
        Museum.says("or nobody is told");
        Museum.due("questions", m.x.enough(0), 0);
        Museum.due("days", m.x.enough(1), 2);
        m.plan(9, 0, "00");
        Museum.due("who", m.x.ask(0), 9);
        Museum.due("when", m.x.ask(1), 0);
    }

    private static void askTies() {
        Museum.says("by which the most DAYS with one answer are fewest (of like ones the earliest MINUTE, then the lowest PERSON)");
        Museum m = new Museum();
        m.plan(2, 0, "00");
        m.plan(5, 0, "99");
        Museum.due("no question parts them: who", m.x.ask(0), 2);
        Museum.due("no question parts them: when", m.x.ask(1), 0);
        Museum.due("no question parts them: at most", m.x.ask(2), 2);
        m.plan(5, 1, "08" + Museum.times("s", 8));
        // f's version 1 reaches c in minute 8: c sees f, and f sees c
        Museum.due("who", m.x.ask(0), 2);
        Museum.due("when", m.x.ask(1), 8);
        Museum.due("at most", m.x.ask(2), 2);
        Museum.due("of", m.x.ask(3), 4);
        m.law("v1(p=5)");
        Museum.due("the earliest minute goes ahead of the lowest person: who", m.x.ask(0), 5);
        Museum.due("when", m.x.ask(1), 7);
        m.law("v9(t=95&p=5)");
        m.plan(5, 1, "19");
        Museum.due("in the last minute: who", m.x.ask(0), 5);
        Museum.due("in the last minute: when", m.x.ask(1), 95);
        m.law("v9(t=95)");
        Museum.due("of like ones the lowest person", m.x.ask(0), 2);
        m.plan(5, 2, "11");
        Museum.due("4 of 6 see one another", m.x.ask(2), 4);
        m.plan(2, 1, "09");
        Museum.due("of 12", m.x.ask(3), 12);
    }

    private static void askOfBestAlone() {
        Museum.says("of all DAYS in which as many hold as in BEST");
        Museum m = new Museum();
        m.plan(0, 0, "00");
        m.plan(1, 0, "00");
        m.plan(1, 1, "01");
        m.plan(1, 2, "02");
        m.law("a1(u=1)");
        m.reports("a0f00");
        Museum.due("those of sun 0", m.x.ask(3), 3);
        Museum.due("at most", m.x.ask(2), 2);
        Museum.due("enough: questions", m.x.enough(0), 1);
        Museum.due("enough: days", m.x.enough(1), 2);
        m.x.strike(0);
        m.reports("a0f10");
        Museum.due("those of sun 1", m.x.ask(3), 3);
        Museum.due("at most", m.x.ask(2), 2);
        m.x.strike(0);
        m.reports("b0i00;b0i01");
        Museum.due("two versions of three, two suns", m.x.ask(3), 4);
        Museum.due("at most", m.x.ask(2), 2);
        Museum.due("enough: questions", m.x.enough(0), 1);
        Museum.due("enough: days", m.x.enough(1), 2);
        Museum.says("two DAYS, which a question parts");
        m.reports("a0f10");
        Museum.due("of", m.x.ask(3), 2);
        Museum.due("at most", m.x.ask(2), 1);
        Museum.due("enough: questions", m.x.enough(0), 1);
        Museum.due("enough: days", m.x.enough(1), 1);
        m.x.strike(2);
        Museum.says("one DAY is left");
        m.reports("b1i01;a0f10");
        Museum.due("one", m.x.ask(3), 1);
        Museum.due("at most", m.x.ask(2), 1);
        Museum.due("who", m.x.ask(0), 0);
        Museum.due("when", m.x.ask(1), 0);
        Museum.due("enough: questions", m.x.enough(0), 0);
        Museum.due("enough: days", m.x.enough(1), 1);
    }

    private static void enoughEnds() {
        Museum.says("till one DAY is left, or no question leaves fewer than there are");
        Museum m = new Museum();
        m.plan(0, 0, "50");
        m.plan(1, 0, "00");
        m.plan(1, 1, "01");
        m.plan(1, 2, "02");
        Museum.due("nobody sees b: questions", m.x.enough(0), 0);
        Museum.due("nobody sees b: days", m.x.enough(1), 6);
        m.law("v14(t=3&p=0);v2(t=5&p=1)");
        // a at (5, 0) sees b at (0, 0) alone
        Museum.due("a sees it or not: questions", m.x.enough(0), 1);
        Museum.due("two versions are left", m.x.enough(1), 4);
        m.plan(2, 0, "03");
        // c at (0, 3) is within two of (0, 1) and (0, 2): b sees it by versions 1, 2
        m.plan(3, 0, "22");
        // d at (2, 2): (0, 0) and (0, 2) see it by two spots
        Museum.due("who", m.x.ask(0), 1);
        Museum.due("when", m.x.ask(1), 5);
        Museum.due("at most", m.x.ask(2), 2);
        Museum.due("one question parts all: questions", m.x.enough(0), 1);
        Museum.due("the suns are left", m.x.enough(1), 2);
        m.law("v14(t=3&p=0);v2(t=5&p=1);a1(u=1)");
        m.reports("a0f10");
        Museum.due("one question", m.x.enough(0), 1);
        Museum.due("one day is left", m.x.enough(1), 1);
    }

    private static void enoughLeastBits() {
        Museum.says("the DAYS with that answer that the most of them have (of like ones the least bits)");
        Museum m = new Museum();
        m.plan(0, 0, "00");
        m.plan(0, 1, "09");
        m.plan(1, 0, "02");
        m.plan(2, 0, "08");
        m.plan(3, 0, "59");
        m.plan(3, 1, "56");
        // in 1 b sees a by a's version 0 alone; in 7 d's version 0 is seen by a's version 1 alone
        m.law("v2(t=1&p=1);v9(t=7&p=0&y=9)");
        Museum.due("b sees a, or nobody: who", m.x.ask(0), 1);
        Museum.due("when", m.x.ask(1), 1);
        Museum.due("at most", m.x.ask(2), 4);
        // nobody is the least: a's version 1 stays, by which d is seen or not
        Museum.due("questions", m.x.enough(0), 2);
        Museum.due("days", m.x.enough(1), 2);
        m.law("v2(t=1&p=1);v9(t=7&p=0&y=0)");
        m.plan(3, 0, "90");
        Museum.due("by version 0 alone it would be parted: questions", m.x.enough(0), 1);
        Museum.due("days", m.x.enough(1), 4);
        Museum.says("the most of them have");
        m.plan(0, 2, "12");
        // two of three versions are seen by b in minute 1
        m.law("v2(t=1&p=1);v9(t=7&p=0&y=9)");
        Museum.due("at most", m.x.ask(2), 8);
        Museum.due("of", m.x.ask(3), 12);
        Museum.due("a is followed: questions", m.x.enough(0), 1);
        Museum.due("days", m.x.enough(1), 8);
    }

    /** What is left goes by the version that was followed: only by version 1 of b a further question parts the days. */
    private static void enoughFollows() {
        Museum.says("asked again and again, of the DAYS with that answer");
        Museum m = new Museum();
        m.plan(0, 0, "50");
        m.plan(1, 0, "00");
        m.plan(1, 1, "01");
        m.plan(1, 2, "02");
        m.plan(2, 0, "03");
        m.plan(3, 0, "228.s");
        m.plan(3, 1, "22");
        // in 5 b sees d, or c, or both; in 20 by version 1 d or nobody
        m.law("v2(t=5&p=1);v9(t=20&p=1&y=1)");
        Museum.due("who", m.x.ask(0), 1);
        Museum.due("when", m.x.ask(1), 5);
        Museum.due("at most", m.x.ask(2), 4);
        Museum.due("c has the least bits: questions", m.x.enough(0), 2);
        Museum.due("days", m.x.enough(1), 2);
        m.law("v2(t=5&p=1);v9(t=20&p=1&y=0)");
        Museum.due("by another version it would: questions", m.x.enough(0), 1);
        Museum.due("days", m.x.enough(1), 4);
    }

    private static void enoughOfMost() {
        Museum.says("of 1458 DAYS");
        Museum m = people(3, 3, 3, 3, 3, 3, 1);
        // g at (6, 1) sees those of a to e that are in version 1, and f always
        m.law("v9(p=6&t=1)");
        m.plan(6, 0, "61");
        Museum.due("of", m.x.ask(3), 1458);
        Museum.due("who", m.x.ask(0), 6);
        Museum.due("when", m.x.ask(1), 1);
        Museum.due("two versions of five people, three of f, two suns", m.x.ask(2), 192);
        Museum.due("questions", m.x.enough(0), 1);
        Museum.due("days", m.x.enough(1), 192);
    }

    private static void wrong() {
        Museum.says("NONE: no such what");
        wrongWhats(new Museum());
        wrongWhats(people(1, 1, 1, 1, 1));
        Museum m = people(1);
        Museum.due("best(10)", m.x.best(10), 0);
        Museum.due("best(11)", m.x.best(11), -1);
        Museum.due("best(9)", m.x.best(9), -1);
    }
}
