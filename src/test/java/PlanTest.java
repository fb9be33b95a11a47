/** Promises 4 (plan), 9 (choose), 10 (sun) and 12 (at). */
public final class PlanTest {
    public static void main(String[] args) {
        steps();
        groups();
        ground();
        faults();
        tooLong();
        refused();
        versions();
        sun();
        Museum.end("PlanTest");
    }

    private static void steps() {
        Museum m = new Museum();
        Museum.due("no steps", m.plan(0, 0, "34"), 0);
        Museum.due("minute 0", m.x.at(0, 0), 43);
        Museum.due("it stays", m.x.at(0, 95), 43);
        Museum.due("all five", m.plan(9, 0, "55nesw."), 5);
        int[] spots = {55, 65, 66, 56, 55, 55, 55};
        for (int t = 0; t < spots.length; t++) {
            Museum.due("at(9, " + t + ")", m.x.at(9, t), spots[t]);
        }
        Museum.due("digits ahead", m.plan(0, 0, "003e2n"), 5);
        Museum.due("two of three", m.x.at(0, 2), 2);
        Museum.due("all", m.x.at(0, 5), 23);
        Museum.due("off the town it stays", m.plan(0, 0, "802e9n2wn"), 14);
        Museum.due("east edge", m.x.at(0, 2), 9);
        Museum.due("north edge", m.x.at(0, 11), 99);
        Museum.due("two west", m.x.at(0, 13), 97);
        Museum.due("still", m.x.at(0, 14), 97);
        Museum.due("the other edges", m.plan(0, 0, "00ws"), 2);
        Museum.due("stays", m.x.at(0, 2), 0);
        Museum.due("before minute 0", m.x.at(0, -1), -1);
        Museum.due("minute 96", m.x.at(0, 96), -1);
        Museum.due("nobody", m.x.at(1, 0), -1);
        Museum.due("no person", m.x.at(10, 0), -1);
        Museum.due("no person", m.x.at(-1, 0), -1);
        Museum.due("95 steps", m.plan(0, 0, "00" + Museum.times("9n", 10) + "5e"), 95);
        Museum.due("the last step", m.x.at(0, 95), 95);
        Museum.due("the last but one", m.x.at(0, 94), 94);
        Museum.due("count(40)", m.x.count(40), 95);
    }

    private static void groups() {
        Museum m = new Museum();
        Museum.due("a group", m.plan(0, 0, "00(ne)"), 2);
        Museum.due("a group two times", m.plan(0, 0, "002(ne)"), 4);
        Museum.due("its third step", m.x.at(0, 3), 21);
        Museum.due("its end", m.x.at(0, 4), 22);
        Museum.due("groups in groups", m.plan(0, 0, "00n2(2e3(n)e)w"), 14);
        int[] spots = {0, 10, 11, 12, 22, 32, 42, 43, 44, 45, 55, 65, 75, 76, 75, 75};
        for (int t = 0; t < spots.length; t++) {
            Museum.due("in groups, at(0, " + t + ")", m.x.at(0, t), spots[t]);
        }
        Museum.due("side by side they are not in one another", m.plan(0, 0, "00((n)(e)(n))(e)"), 4);
        Museum.due("their end", m.x.at(0, 4), 22);
    }

    private static void ground() {
        Museum m = new Museum();
        m.town("#2020;c0202");
        Museum.due("a wall ahead", m.plan(0, 0, "003e"), 3);
        Museum.due("it stays ahead of the wall", m.x.at(0, 3), 1);
        Museum.due("a canal ahead", m.plan(1, 0, "003n"), 3);
        Museum.due("it stays ahead of the canal", m.x.at(1, 3), 10);
        Museum.due("on a wall", m.plan(2, 0, "20"), -3000);
        Museum.due("on a canal", m.plan(2, 0, "02x"), -3000);
        Museum.due("asked behind both digits", m.plan(2, 0, "2x"), -1001);
        m.town("#0000");
        Museum.due("the spot of minute 0 counts, whatever it is now", m.x.at(0, 0), 0);
        Museum.due("and it steps off it, by the town as it is now", m.x.at(0, 3), 3);
        m.town("#0000;#1010;#0101");
        Museum.due("walled in", m.x.at(0, 3), 0);
        Museum.due("a town with a fault changes no walk", m.town("#00"), -1003);
        Museum.due("walled in still", m.x.at(0, 3), 0);
    }

    private static void faults() {
        Museum m = new Museum();
        m.plan(0, 0, "00ee");
        Museum.due("no digit", m.plan(0, 0, "n"), -1000);
        Museum.due("one digit", m.plan(0, 0, "1"), -1001);
        Museum.due("a blank", m.plan(0, 0, "00 n"), -1002);
        Museum.due("a 1 ahead", m.plan(0, 0, "001n"), -1002);
        Museum.due("a 0 ahead", m.plan(0, 0, "000n"), -1002);
        Museum.due("two digits ahead", m.plan(0, 0, "0022n"), -1003);
        Museum.due("a digit and the end", m.plan(0, 0, "00n2"), -1004);
        Museum.due("a group without a step", m.plan(0, 0, "00()"), -1003);
        Museum.due("a group without an end", m.plan(0, 0, "00(n"), -1004);
        Museum.due("a group and nothing", m.plan(0, 0, "00("), -1003);
        Museum.due("a ) alone", m.plan(0, 0, "00n)"), -1003);
        Museum.due("a digit ahead of )", m.plan(0, 0, "00(n2)"), -1005);
        Museum.due("a third ( in others", m.plan(0, 0, "00(2(n2(e)))"), -5007);
        Museum.due("a third ( at once", m.plan(0, 0, "00((("), -5004);
        Museum.due("another letter", m.plan(0, 0, "00nN"), -1003);
        Museum.due("the plan before stays", m.x.at(0, 2), 2);
        Museum.due("its steps", m.x.count(40), 2);
        Museum.due("the tape is empty", m.x.count(3), 0);
    }

    private static void tooLong() {
        Museum m = new Museum();
        Museum.due("96 steps", m.plan(0, 0, "00" + Museum.times("9n", 10) + "5en"), -6024);
        Museum.due("at its digit", m.plan(0, 0, "00" + Museum.times("9n", 10) + "2w9e"), -6024);
        Museum.due("a group, at its digit", m.plan(0, 0, "004(9n9n9n)"), -6002);
        Museum.due("a group, asked when it ends", m.plan(0, 0, "004(9n9n9nx"), -1010);
        Museum.due("a group, at its (", m.plan(0, 0, "00" + Museum.times("9n", 10) + "5w(n)"), -6025);
        Museum.due("an inner one first", m.plan(0, 0, "009(9(9n))"), -6002);
        Museum.due("an inner step", m.plan(0, 0, "002(" + Museum.times("9n", 10) + "6n)"), -6024);
        Museum.due("an inner group", m.plan(0, 0, "00n(n9(9n9n))"), -6005);
        Museum.due("95 by a group", m.plan(0, 0, "005(9n9n.)"), 95);
        Museum.due("a later fault does not matter", m.plan(0, 0, "004(9n9n9n)x"), -6002);
        Museum.due("an earlier one does", m.plan(0, 0, "00x4(9n9n9n)"), -1002);
    }

    private static void refused() {
        Museum m = new Museum();
        m.feed("00");
        Museum.due("person 10", m.x.plan(10, 0, 2), -1);
        Museum.due("person -1", m.x.plan(-1, 0, 2), -1);
        Museum.due("version 3", m.x.plan(0, 3, 2), -1);
        Museum.due("version -1", m.x.plan(0, -1, 2), -1);
        Museum.due("version 1 of one that is not told", m.x.plan(0, 1, 2), -1);
        Museum.due("0 bytes", m.x.plan(0, 0, 0), -1);
        Museum.due("21 bytes", m.x.plan(0, 0, 21), -1);
        Museum.due("least", m.x.plan(Integer.MIN_VALUE, Integer.MAX_VALUE, Integer.MIN_VALUE), -1);
        Museum.due("the tape stays", m.x.count(3), 20);
        Museum.due("nobody is told", m.x.count(0), 0);
        Museum.due("then it is", m.x.plan(0, 0, 2), 0);
        m.feed("00" + Museum.times(".", 98));
        Museum.due("91 bytes", m.x.plan(0, 0, 91), -1);
        Museum.due("90 bytes", m.x.plan(0, 0, 90), 88);
    }

    private static void versions() {
        Museum m = new Museum();
        Museum.due("choose ahead of a plan", m.x.choose(3, 0), false);
        m.plan(3, 0, "11");
        Museum.due("no plan of version 1", m.x.choose(3, 1), false);
        Museum.due("version 2 alone", m.plan(3, 2, "22nn"), 2);
        Museum.due("which there are", m.x.count(23), 5);
        Museum.due("chosen at first", m.x.count(13), 0);
        Museum.due("still version 0", m.x.at(3, 0), 11);
        Museum.due("version 1 is none", m.x.choose(3, 1), false);
        Museum.due("choose 2", m.x.choose(3, 2), true);
        Museum.due("is chosen", m.x.count(13), 2);
        Museum.due("where it is", m.x.at(3, 2), 42);
        Museum.due("its steps", m.x.count(43), 2);
        Museum.due("version 0 again told changes no choice", m.plan(3, 0, "77e"), 1);
        Museum.due("is chosen still", m.x.count(13), 2);
        Museum.due("a plan in place of the one before", m.plan(3, 2, "00e"), 1);
        Museum.due("where it is", m.x.at(3, 1), 1);
        Museum.due("choose 0", m.x.choose(3, 0), true);
        Museum.due("where it is", m.x.at(3, 1), 78);
        Museum.due("version 3", m.x.choose(3, 3), false);
        Museum.due("version -1", m.x.choose(3, -1), false);
        Museum.due("person 10", m.x.choose(10, 0), false);
        Museum.due("person -1", m.x.choose(-1, 0), false);
        Museum.due("person 4", m.x.choose(4, 0), false);
        m.plan(4, 0, "00");
        Museum.due("version 3 is not the next one's", m.x.choose(3, 3), false);
        Museum.due("version 3 is not the next one's", m.plan(3, 3, "22"), -1);
        Museum.due("version -1 is not the one's before", m.x.choose(4, -1), false);
        Museum.due("the next one's plan stays", m.x.at(4, 0), 0);
        m = new Museum();
        m.plan(3, 0, "11");
        Museum.due("nobody else", m.x.count(14), -1);
        Museum.due("nobody else", m.x.count(24), -1);
        Museum.due("nobody else", m.x.count(44), -1);
    }

    private static void sun() {
        Museum m = new Museum();
        Museum.due("the sun at first", m.x.count(4), 0);
        Museum.due("sun(1)", m.x.sun(1), true);
        Museum.due("the sun", m.x.count(4), 1);
        Museum.due("sun(2)", m.x.sun(2), false);
        Museum.due("sun(-1)", m.x.sun(-1), false);
        Museum.due("the sun", m.x.count(4), 1);
        Museum.due("sun(0)", m.x.sun(0), true);
        Museum.due("the sun", m.x.count(4), 0);
    }
}
