/** Edges of HALVES: promise 43. */
public final class KissEdgeTest {
    private static final int MOST = Integer.MAX_VALUE;
    private static final int LEAST = Integer.MIN_VALUE;

    public static void main(String[] args) {
        howMany();
        bytesOutOfBounds();
        bytesBehind();
        apart();
        near();
        sides();
        places();
        reasons();
        eachInOne();
        leastRow();
        tenHalves();
        nothingIsLeft();
        Museum.end("KissEdgeTest");
    }

    private static void due(int apart, int what, int want, int... bytes) {
        Museum m = new Museum();
        m.feed(bytes);
        int n = bytes.length / 3;
        Museum.due("halves(" + n + ", " + apart + ", " + what + ")", m.x.halves(n, apart, what), want);
        Museum.due("the tape is empty", m.x.count(3), 0);
    }

    /** So many halves of side 0 on spot 0 in minute 0. */
    private static int[] alike(int n) {
        return new int[3 * n];
    }

    private static void howMany() {
        Museum.says("HALVES: 1 to 10; by the first 3 n bytes of the tape; NONE: it has not so many (the tape stays)");
        for (int n = 1; n <= 10; n++) {
            due(0, 20, 0, alike(n));
        }
        Museum m = new Museum();
        Museum.due("an empty tape", m.x.halves(1, 0, 20), -1);
        m.feed(new int[40]);
        for (int n : new int[] {0, -1, 11, MOST, LEAST, MOST / 3 + 1}) {
            Museum.due("halves(" + n + ", ..)", m.x.halves(n, 0, 20), -1);
        }
        Museum.due("the tape stays", m.x.count(3), 40);
        Museum.due("10", m.x.halves(10, 0, 20), 0);
        Museum.due("empty then", m.x.count(3), 0);
        m.feed(new int[20]);
        Museum.due("21 bytes of 20", m.x.halves(7, 0, 20), -1);
        Museum.due("the tape stays", m.x.count(3), 20);
        Museum.due("18 bytes of 20", m.x.halves(6, 0, 20), 0);
    }

    private static void bytesOutOfBounds() {
        Museum.says("each a side (0, 1), a MINUTE (0 to 95), a SPOT (0 to 99); -2: a byte out of bounds");
        int[] most = {1, 95, 99};
        for (int n = 1; n <= 10; n += 3) {
            for (int place = 0; place < 3 * n; place++) {
                int[] bytes = alike(n);
                bytes[place] = most[place % 3];
                due(0, 20, place % 3 == 0 && n > 1 ? 1 : 0, bytes);
                bytes[place]++;
                due(0, 0, -2, bytes);
                bytes[place] = 128;
                due(0, 20, -2, bytes);
                bytes[place] = 255;
                due(0, 20, -2, bytes);
            }
        }
    }

    private static void bytesBehind() {
        Museum.says("by the first 3 n bytes of the tape");
        Museum m = new Museum();
        m.feed(0, 5, 44, 1, 5, 44, 2, 96, 100);
        Museum.due("those behind don't matter", m.x.halves(2, 0, 20), 1);
        m.feed(0, 5, 44, 1, 5, 44, 2, 96, 100);
        Museum.due("one more is out of bounds", m.x.halves(3, 0, 20), -2);
        m.feed(0, 5, 44, 1, 5, 44);
        Museum.due("one half alone", m.x.halves(1, 0, 20), 0);
    }

    private static void apart() {
        Museum.says("their MINUTES at most so many as told; MINUTES apart (0 to 95)");
        for (int far = 0; far <= 95; far += 19) {
            due(far, 20, 1, 0, 0, 44, 1, far, 44);
            due(far, 20, 1, 0, 95, 44, 1, 95 - far, 44);
            if (far < 95) {
                due(far, 20, 0, 0, 0, 44, 1, far + 1, 44);
                due(far, 20, 0, 0, 95, 44, 1, 94 - far, 44);
            }
        }
        Museum.says("NONE: no such ones");
        Museum m = new Museum();
        m.feed(0, 0, 44, 1, 95, 44);
        for (int far : new int[] {-1, 96, MOST, LEAST}) {
            Museum.due("apart " + far, m.x.halves(2, far, 20), -1);
        }
        Museum.due("the tape stays", m.x.count(3), 20);
        Museum.due("apart 95", m.x.halves(2, 95, 20), 1);
    }

    private static void near() {
        Museum.says("if their SPOTS are at most 1 apart (x, y each)");
        for (int here : new int[] {0, 9, 44, 90, 99, 50, 19}) {
            Museum m = new Museum();
            int wrong = 0;
            for (int there = 0; there < 100; there++) {
                boolean near = Math.abs(here % 10 - there % 10) <= 1 && Math.abs(here / 10 - there / 10) <= 1;
                m.feed(0, 5, here, 1, 5, there);
                wrong += m.x.halves(2, 0, 20) == (near ? 1 : 0) ? 0 : 1;
            }
            Museum.due("spots near " + here + " otherwise", wrong, 0);
        }
    }

    private static void sides() {
        Museum.says("two of unlike sides");
        due(0, 20, 0, 0, 5, 44, 0, 5, 44);
        due(0, 20, 0, 1, 5, 44, 1, 5, 44);
        due(0, 20, 1, 0, 5, 44, 1, 5, 44);
        due(0, 20, 1, 1, 5, 44, 0, 5, 44);
        due(0, 0, 1, 1, 5, 44, 0, 5, 44);
        due(0, 1, 0, 1, 5, 44, 0, 5, 44);
        Museum.says("10 none");
        due(0, 0, 10, 0, 5, 44, 0, 5, 44);
        due(0, 1, 10, 1, 5, 44, 1, 5, 44);
        due(0, 0, 10, 0, 5, 44);
    }

    private static void places() {
        Museum.says("what 20, else the half at place what (0 on); -4: no such place");
        for (int n = 1; n <= 10; n++) {
            due(0, n - 1, 10, alike(n));
            due(0, n, -4, alike(n));
            due(0, 20, 0, alike(n));
        }
        for (int what : new int[] {-1, 10, 11, 19, 21, MOST, LEAST}) {
            due(0, what, -4, alike(10));
        }
    }

    private static void reasons() {
        Museum.says("NONE is told last, so it is looked at first; then -2, then -4");
        due(0, 99, -2, 2, 5, 44);
        due(0, 99, -4, 0, 5, 44);
        Museum m = new Museum();
        m.feed(2, 5, 44);
        Museum.due("no such n", m.x.halves(0, 0, 99), -1);
        Museum.due("no such apart", m.x.halves(1, 96, 99), -1);
        Museum.due("not so many", m.x.halves(8, 0, 99), -1);
        Museum.due("the tape stays", m.x.count(3), 20);
        Museum.due("a byte out of bounds", m.x.halves(1, 0, 99), -2);
        Museum.due("empty then", m.x.count(3), 0);
        m.feed(0, 5, 44);
        Museum.due("no such place", m.x.halves(1, 0, 1), -4);
        Museum.due("empty then", m.x.count(3), 0);
    }

    private static void eachInOne() {
        Museum.says("the most KISSES, each half in one at most");
        due(0, 20, 1, 0, 5, 44, 1, 5, 44, 1, 5, 44);
        due(0, 20, 1, 0, 5, 44, 0, 5, 44, 1, 5, 44);
        due(0, 20, 2, 0, 5, 44, 0, 5, 44, 1, 5, 44, 1, 5, 44);
        // a chain: 0 at 42, 1 at 43, 0 at 44, 1 at 45: each near the next
        due(0, 20, 2, 0, 5, 42, 1, 5, 43, 0, 5, 44, 1, 5, 45);
        // the one in the middle near both, the others near it alone
        due(0, 20, 1, 0, 5, 43, 1, 5, 44, 0, 5, 45);
        // all five of side 0 may have the first, one each the others
        due(0, 20, 3, 0, 5, 44, 0, 5, 45, 0, 5, 46, 1, 5, 45, 1, 5, 47, 1, 5, 43);
    }

    private static void leastRow() {
        Museum.says("of such rows the least (by halves of side 0, as they come: the place of the other half, 10 none)");
        int[] chain = {0, 5, 44, 0, 5, 42, 1, 5, 43, 1, 5, 45};
        due(0, 0, 3, chain);
        due(0, 1, 2, chain);
        due(0, 2, 1, chain);
        due(0, 3, 0, chain);
        int[] free = {0, 5, 44, 0, 5, 44, 1, 5, 43, 1, 5, 45};
        due(0, 0, 2, free);
        due(0, 1, 3, free);
        due(0, 2, 0, free);
        due(0, 3, 1, free);
        Museum.says("the first has one, though it could have none");
        int[] one = {1, 5, 44, 0, 5, 44, 0, 5, 44, 0, 5, 44};
        due(0, 0, 1, one);
        due(0, 1, 0, one);
        due(0, 2, 10, one);
        due(0, 3, 10, one);
        Museum.says("a place behind it, and one ahead of it");
        int[] around = {1, 5, 44, 0, 5, 44, 1, 5, 44, 0, 5, 44};
        due(0, 1, 0, around);
        due(0, 3, 2, around);
        due(0, 0, 1, around);
        due(0, 2, 3, around);
        Museum.says("the first must have none for the most");
        int[] none = {0, 5, 10, 0, 5, 44, 1, 5, 44};
        due(0, 0, 10, none);
        due(0, 1, 2, none);
        Museum.says("the least row of the most, not the least row");
        // first (44): 3 or 4; second (42): 3 alone; third (46): 4 or 5
        int[] three = {0, 5, 44, 0, 5, 42, 0, 5, 46, 1, 5, 43, 1, 5, 45, 1, 5, 47};
        due(0, 20, 3, three);
        due(0, 0, 4, three);
        due(0, 1, 3, three);
        due(0, 2, 5, three);
        due(0, 3, 1, three);
        due(0, 4, 0, three);
        due(0, 5, 2, three);
    }

    private static void tenHalves() {
        Museum.says("10: five and five, one and nine, ten and none");
        int[] five = alike(10);
        for (int i = 5; i < 10; i++) {
            five[3 * i] = 1;
        }
        due(0, 20, 5, five);
        for (int i = 0; i < 10; i++) {
            due(0, i, (i + 5) % 10, five);
        }
        for (int lone = 0; lone < 10; lone++) {
            int[] one = alike(10);
            one[3 * lone] = 1;
            due(0, 20, 1, one);
            due(0, lone, lone == 0 ? 1 : 0, one);
            due(0, 9, lone == 9 ? 0 : 10, one);
            int[] other = alike(10);
            for (int i = 0; i < 10; i++) {
                other[3 * i] = i == lone ? 0 : 1;
            }
            due(0, lone, lone == 0 ? 1 : 0, other);
            due(0, 20, 1, other);
        }
        due(95, 9, 10, alike(10));
        int[] far = alike(10);
        for (int i = 0; i < 10; i++) {
            far[3 * i] = i % 2;
            far[3 * i + 2] = 11 * i;
        }
        due(0, 20, 5, far);
        for (int i = 0; i < 10; i++) {
            due(0, i, i ^ 1, far);
        }
    }

    private static void nothingIsLeft() {
        Museum.says("the halves of a call ahead of it don't matter");
        Museum m = new Museum();
        int[] five = alike(10);
        for (int i = 5; i < 10; i++) {
            five[3 * i] = 1;
        }
        m.feed(five);
        Museum.due("ten", m.x.halves(10, 0, 0), 5);
        m.feed(0, 0, 0, 0, 0, 0);
        Museum.due("two of side 0", m.x.halves(2, 0, 0), 10);
        m.feed(0, 0, 0, 0, 0, 0);
        Museum.due("two of side 0", m.x.halves(2, 0, 20), 0);
    }
}
