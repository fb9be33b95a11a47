/** Edges of HOW SURE: promise 44. */
public final class SureEdgeTest {
    private static final int MOST = Integer.MAX_VALUE;
    private static final int LEAST = Integer.MIN_VALUE;

    public static void main(String[] args) {
        tenths();
        howMany();
        bytes();
        notToldGoesFirst();
        notAtAll();
        lowestTerms();
        large();
        reasons();
        Museum.end("SureEdgeTest");
    }

    /** Person p is right in p tenths; 9 in ten. */
    private static Museum people() {
        Museum m = new Museum();
        for (int p = 0; p < 10; p++) {
            m.plan(p, 0, "00");
        }
        m.law("r10(p=9);rp(1=1)");
        return m;
    }

    private static void due(int tenths, long above, long below, int... said) {
        Museum m = people();
        m.feed(said);
        Museum.due("above, by " + tenths, m.x.sure(tenths, said.length, 0), above);
        Museum.due("the tape is empty", m.x.count(3), 0);
        m.feed(said);
        Museum.due("below, by " + tenths, m.x.sure(tenths, said.length, 1), below);
        Museum.due("the tape is empty", m.x.count(3), 0);
    }

    private static void tenths() {
        Museum.says("by tenths (0 to 10)");
        due(0, 0, 1, 5);
        due(10, 1, 1, 5);
        due(1, 1, 10, 5);
        due(9, 9, 10, 5);
        Museum m = people();
        m.feed(5);
        for (int tenths : new int[] {-1, 11, MOST, LEAST}) {
            Museum.due("sure(" + tenths + ", 1, 0)", m.x.sure(tenths, 1, 0), -1);
            Museum.due("sure(" + tenths + ", 1, 1)", m.x.sure(tenths, 1, 1), -1);
        }
        Museum.due("the tape stays", m.x.count(3), 20);
    }

    private static void howMany() {
        Museum.says("the first n bytes of the tape (n 1 to 8; empty then); NONE: it has not so many (the tape stays)");
        Museum m = people();
        Museum.due("an empty tape", m.x.sure(5, 1, 0), -1);
        m.feed(7, 7, 7, 7, 7, 7, 7, 7, 7);
        for (int n : new int[] {0, -1, 9, 21, MOST, LEAST}) {
            Museum.due("n " + n, m.x.sure(5, n, 0), -1);
        }
        Museum.due("the tape stays", m.x.count(3), 20);
        Museum.due("8", m.x.sure(5, 8, 0), 5764801);
        Museum.due("empty", m.x.count(3), 0);
        m.feed(7, 7, 7, 7, 7, 7, 7, 7, 255);
        Museum.due("8, below", m.x.sure(5, 8, 1), 5764801 + 6561);
        m.feed(7, 255);
        Museum.due("1: those behind don't matter", m.x.sure(5, 1, 0), 7);
        m.feed(7, 255);
        Museum.due("2", m.x.sure(5, 2, 0), -3);
        Museum.says("what 0 above, 1 below; NONE: no such ones");
        m.feed(7);
        for (int what : new int[] {-1, 2, MOST, LEAST}) {
            Museum.due("what " + what, m.x.sure(5, 1, what), -1);
        }
        Museum.due("the tape stays", m.x.count(3), 20);
    }

    private static void bytes() {
        Museum.says("(PERSON, and 16 if it says no)");
        for (int p = 1; p < 9; p++) {
            Museum m = people();
            m.feed(p);
            long above = m.x.sure(5, 1, 0);
            m.feed(p);
            Museum.due("yes by " + p, 10 * above, p * m.x.sure(5, 1, 1));
            m.feed(16 + p);
            above = m.x.sure(5, 1, 0);
            m.feed(16 + p);
            Museum.due("no by " + p, 10 * above, (10 - p) * m.x.sure(5, 1, 1));
        }
        due(5, 0, 1, 0);
        due(5, 1, 1, 16);
        due(5, 1, 1, 9);
        due(5, 0, 1, 25);
        Museum.says("-3: a PERSON that is not told");
        for (int said : new int[] {10, 15, 26, 31, 32, 33, 48, 63, 64, 127, 128, 160, 255}) {
            due(5, -3, -3, said);
            due(5, -3, -3, 7, said);
        }
        Museum m = new Museum();
        m.law("r5(1=1)");
        m.plan(1, 0, "00");
        for (int said : new int[] {0, 2, 16, 18}) {
            m.feed(said);
            Museum.due("one that is not told: " + said, m.x.sure(5, 1, 0), -3);
        }
        m.feed(17);
        Museum.due("one that is told", m.x.sure(5, 1, 0), 1);
    }

    private static void notToldGoesFirst() {
        Museum.says("-3 (ahead of -2)");
        due(0, -2, -2, 9);
        due(0, -3, -3, 9, 10);
        due(0, -3, -3, 10, 9);
        due(5, -3, -3, 9, 25, 10);
        due(5, -3, -3, 0, 0, 0, 0, 0, 0, 0, 26);
    }

    private static void notAtAll() {
        Museum.says("-2: it can't be said so at all");
        due(0, -2, -2, 9);
        due(10, -2, -2, 25);
        due(10, -2, -2, 0);
        due(0, -2, -2, 16);
        due(5, -2, -2, 9, 25);
        due(5, -2, -2, 9, 0);
        due(5, -2, -2, 16, 0);
        due(5, 1, 1, 9, 9);
        due(5, 1, 1, 9, 16);
        due(0, 0, 1, 9 + 16);
        due(10, 1, 1, 9);
    }

    private static void lowestTerms() {
        Museum.says("above, below the line, without a common divisor");
        due(5, 1, 2, 5);
        due(2, 1, 5, 5);
        due(4, 2, 5, 5);
        due(5, 2, 5, 4);
        due(5, 3, 5, 20);
        due(5, 9, 13, 6, 6);
        due(6, 27, 29, 6, 8, 20);
        due(0, 0, 1, 1, 2, 3);
        due(10, 1, 1, 1, 2, 3);
    }

    private static void large() {
        Museum.says("1 to 8 PEOPLE");
        due(5, 1, 1, 9, 9, 9, 9, 9, 9, 9, 9);
        due(10, 1, 1, 9, 9, 9, 9, 9, 9, 9, 9);
        due(3, 3 * 43046721L, 3 * 43046721L + 7, 17, 17, 17, 17, 17, 17, 17, 17);
        due(7, 7, 7 + 3 * 43046721L, 1, 1, 1, 1, 1, 1, 1, 1);
    }

    private static void reasons() {
        Museum.says("NONE is told last, so it is looked at first");
        Museum m = people();
        m.feed(255);
        Museum.due("no such tenths", m.x.sure(11, 1, 0), -1);
        Museum.due("no such n", m.x.sure(5, 0, 0), -1);
        Museum.due("no such what", m.x.sure(5, 1, 2), -1);
        Museum.due("the tape stays", m.x.count(3), 20);
        Museum.due("not told", m.x.sure(5, 1, 0), -3);
        Museum.due("empty then", m.x.count(3), 0);
    }
}
