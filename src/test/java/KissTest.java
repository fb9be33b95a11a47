/** Promise 43 (halves). */
public final class KissTest {
    public static void main(String[] args) {
        pairs();
        most();
        least();
        wrong();
        Museum.end("KissTest");
    }

    /** The answer for what by halves of three bytes each. */
    private static void due(int apart, int what, int want, int... bytes) {
        Museum m = new Museum();
        m.feed(bytes);
        int n = bytes.length / 3;
        Museum.due("halves(" + n + ", " + apart + ", " + what + ")", m.x.halves(n, apart, what), want);
        Museum.due("the tape is empty", m.x.count(3), 0);
    }

    private static void pairs() {
        due(0, 20, 0, 0, 5, 44);
        due(0, 0, 10, 0, 5, 44);
        due(0, 20, 1, 0, 5, 44, 1, 5, 44);
        due(0, 0, 1, 0, 5, 44, 1, 5, 44);
        due(0, 1, 0, 0, 5, 44, 1, 5, 44);
        due(0, 20, 0, 0, 5, 44, 0, 5, 44);
        due(0, 20, 0, 1, 5, 44, 1, 5, 44);
        due(0, 20, 1, 1, 5, 55, 0, 5, 44);
        due(0, 20, 1, 1, 5, 35, 0, 5, 44);
        due(0, 20, 0, 1, 5, 46, 0, 5, 44);
        due(0, 20, 0, 1, 5, 64, 0, 5, 44);
        due(95, 20, 0, 1, 5, 49, 0, 5, 50);
        due(0, 20, 0, 0, 5, 44, 1, 6, 44);
        due(1, 20, 1, 0, 5, 44, 1, 6, 44);
        due(1, 20, 1, 0, 6, 44, 1, 5, 44);
        due(94, 20, 0, 0, 0, 0, 1, 95, 0);
        due(95, 20, 1, 0, 0, 0, 1, 95, 0);
        due(0, 20, 1, 0, 95, 99, 1, 95, 88);
        due(0, 20, 1, 0, 5, 40, 1, 5, 50);
        due(0, 20, 1, 0, 5, 90, 1, 5, 80);
        due(0, 20, 0, 0, 5, 90, 1, 5, 70);
        due(0, 20, 0, 0, 5, 9, 1, 5, 10);
        due(0, 20, 0, 0, 5, 0, 1, 5, 2);
    }

    private static void most() {
        // the first half of side 0 must leave the near one to the second
        int[] bytes = {0, 5, 45, 0, 5, 43, 1, 5, 44, 1, 5, 46};
        due(0, 20, 2, bytes);
        due(0, 0, 3, bytes);
        due(0, 1, 2, bytes);
        due(0, 2, 1, bytes);
        due(0, 3, 0, bytes);
        int[] five = new int[30];
        for (int i = 0; i < 10; i++) {
            five[3 * i] = i % 2;
            five[3 * i + 1] = 7;
            five[3 * i + 2] = 44;
        }
        due(0, 20, 5, five);
        for (int i = 0; i < 10; i++) {
            due(0, i, i ^ 1, five);
        }
    }

    private static void least() {
        // two halves of side 0 and one of side 1: the first has it
        int[] bytes = {1, 5, 44, 0, 5, 44, 0, 5, 44};
        due(0, 20, 1, bytes);
        due(0, 0, 1, bytes);
        due(0, 1, 0, bytes);
        due(0, 2, 10, bytes);
        // two of side 1: the one of the least place
        int[] other = {0, 5, 44, 1, 9, 44, 1, 6, 44, 1, 5, 44};
        due(1, 0, 2, other);
        due(1, 1, 10, other);
        due(1, 2, 0, other);
        due(1, 3, 10, other);
        due(4, 0, 1, other);
        // the first takes place 1 although it could have 4, as long as the others lose nothing
        int[] three = {0, 5, 44, 1, 5, 44, 0, 5, 55, 0, 5, 33, 1, 5, 45, 1, 5, 99};
        due(0, 20, 2, three);
        due(0, 0, 1, three);
        due(0, 2, 4, three);
        due(0, 3, 10, three);
    }

    private static void wrong() {
        due(0, 20, -2, 2, 5, 44);
        due(0, 20, -2, 0, 96, 44);
        due(0, 20, -2, 0, 5, 100);
        due(0, 20, -2, 255, 5, 44);
        due(0, 20, -2, 0, 255, 44);
        due(0, 20, -2, 0, 5, 44, 1, 5, 255);
        due(0, 1, -4, 0, 5, 44);
        due(0, -1, -4, 0, 5, 44);
        due(0, 10, -4, 0, 5, 44);
        due(0, 19, -4, 0, 5, 44);
        due(0, 21, -4, 0, 5, 44);
        due(0, Integer.MIN_VALUE, -4, 0, 5, 44);
        due(0, 21, -2, 0, 5, 100);
        Museum m = new Museum();
        Museum.due("an empty tape", m.x.halves(1, 0, 20), -1);
        m.feed(0, 5, 44);
        Museum.due("0 halves", m.x.halves(0, 0, 20), -1);
        Museum.due("-1 halves", m.x.halves(-1, 0, 20), -1);
        Museum.due("11 halves", m.x.halves(11, 0, 20), -1);
        Museum.due("7 halves of 20 bytes", m.x.halves(7, 0, 20), -1);
        Museum.due("apart -1", m.x.halves(1, -1, 20), -1);
        Museum.due("apart 96", m.x.halves(1, 96, 20), -1);
        Museum.due("of all reasons this one first", m.x.halves(0, 96, 99), -1);
        Museum.due("most", m.x.halves(Integer.MAX_VALUE, 0, 20), -1);
        Museum.due("the tape stays", m.x.count(3), 20);
        Museum.due("one half", m.x.halves(1, 0, 20), 0);
        m.feed(new int[60]);
        Museum.due("11 halves on the tape", m.x.halves(11, 0, 20), -1);
        Museum.due("of a longer tape", m.x.halves(10, 0, 20), 0);
        Museum.due("all is gone", m.x.count(3), 0);
    }
}
