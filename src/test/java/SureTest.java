/** Promise 44 (sure). */
public final class SureTest {
    public static void main(String[] args) {
        likely();
        never();
        wrong();
        Museum.end("SureTest");
    }

    private static Museum people() {
        Museum m = new Museum();
        for (int p = 0; p < 10; p++) {
            m.plan(p, 0, "00");
        }
        m.plan(9, 1, "11");
        m.law("r7(p=0);r10(p=1);r0(p=2);r5(p=3);r3(p=4);r6(p=5)");
        return m;
    }

    private static void due(Museum m, int tenths, long above, long below, int... said) {
        m.feed(said);
        Museum.due("sure(" + tenths + "), above", m.x.sure(tenths, said.length, 0), above);
        Museum.due("the tape is empty", m.x.count(3), 0);
        m.feed(said);
        Museum.due("sure(" + tenths + "), below", m.x.sure(tenths, said.length, 1), below);
    }

    private static void likely() {
        Museum m = people();
        due(m, 5, 7, 10, 0);
        due(m, 5, 3, 10, 16);
        due(m, 5, 49, 58, 0, 0);
        due(m, 5, 1, 2, 0, 16);
        due(m, 2, 7, 19, 0);
        due(m, 0, 0, 1, 0);
        due(m, 10, 1, 1, 0);
        due(m, 3, 3, 10, 3);
        due(m, 5, 1, 1, 1);
        due(m, 5, 0, 1, 17);
        due(m, 5, 0, 1, 2);
        due(m, 5, 1, 1, 18);
        due(m, 4, 4 * 7 * 7 * 4 / 4, (4 * 7 * 7 * 4 + 6 * 3 * 3 * 6) / 4, 0, 20, 21);
        due(m, 5, 5764801, 5764801 + 6561, 0, 0, 0, 0, 0, 0, 0, 0);
        // one of whom the law says nothing is never right
        due(m, 5, 1, 1, 16 + 9);
    }

    private static void never() {
        Museum m = people();
        due(m, 0, -2, -2, 1);
        due(m, 10, -2, -2, 17);
        due(m, 10, -2, -2, 2);
        due(m, 5, -2, -2, 1, 17);
        due(m, 5, -2, -2, 1, 2);
    }

    private static void wrong() {
        Museum m = new Museum();
        m.plan(0, 0, "00");
        m.plan(2, 0, "00");
        m.law("r10(1=1)");
        due(m, 5, -3, -3, 1);
        due(m, 5, -3, -3, 0, 17);
        due(m, 5, -3, -3, 10);
        due(m, 5, -3, -3, 15);
        due(m, 5, -3, -3, 32);
        due(m, 5, -3, -3, 255);
        due(m, 0, -3, -3, 0, 1);
        m.feed(0, 2);
        Museum.due("tenths -1", m.x.sure(-1, 1, 0), -1);
        Museum.due("tenths 11", m.x.sure(11, 1, 0), -1);
        Museum.due("nobody says it", m.x.sure(5, 0, 0), -1);
        Museum.due("-1 of them", m.x.sure(5, -1, 0), -1);
        Museum.due("nine of them", m.x.sure(5, 9, 0), -1);
        Museum.due("what 2", m.x.sure(5, 1, 2), -1);
        Museum.due("what -1", m.x.sure(5, 1, -1), -1);
        Museum.due("the tape stays", m.x.count(3), 20);
        Museum.due("two of them", m.x.sure(5, 2, 1), 1);
        Museum.due("an empty tape", m.x.sure(5, 1, 0), -1);
    }
}
