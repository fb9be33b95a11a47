/** Promises 34 (word) and 35 (knows). */
public final class WordTest {
    public static void main(String[] args) {
        row();
        voices();
        wrong();
        Museum.end("WordTest");
    }

    /** Four people in a row, two spots from one to the next; the fifth far away comes near in minute 9. */
    private static Museum people() {
        Museum m = new Museum();
        m.plan(0, 0, "00");
        m.plan(1, 0, "20");
        m.plan(2, 0, "40");
        m.plan(3, 0, "60");
        m.plan(4, 0, "099s");
        m.law("h2(1=1)");
        return m;
    }

    private static void row() {
        Museum m = people();
        Museum.due("at the end of the minute itself", m.x.word(0, 0, 0), 0b11);
        Museum.due("one further", m.x.word(0, 0, 1), 0b111);
        Museum.due("two further", m.x.word(0, 0, 2), 0b1111);
        Museum.due("out of the middle", m.x.word(2, 5, 5), 0b1110);
        Museum.due("the fifth is not near enough", m.x.word(0, 0, 6), 0b1111);
        Museum.due("the fifth hears it in 7", m.x.word(0, 0, 7), 0b11111);
        Museum.due("to the end", m.x.word(0, 0, 95), 0b11111);
        Museum.due("in the last minute", m.x.word(3, 95, 95), 0b1100);
        int[] when = {0, 0, 1, 2, 7};
        for (int q = 0; q < 5; q++) {
            Museum.due("knows " + q, m.x.knows(0, 0, q), when[q]);
        }
        Museum.due("itself", m.x.knows(3, 90, 3), 90);
        Museum.due("late", m.x.knows(3, 95, 0), -2);
        Museum.due("in the last minute", m.x.knows(3, 95, 2), 95);
        Museum.due("said by the fifth", m.x.knows(4, 0, 3), 10);
    }

    private static void voices() {
        Museum m = people();
        // b's voice alone carries, and b does not hear a
        m.law("h9(p=1)");
        Museum.due("a is not heard", m.x.word(0, 0, 8), 0b1);
        Museum.due("but by the fifth on its own spot", m.x.word(0, 0, 9), 0b10001);
        Museum.due("b is", m.x.word(1, 0, 0), 0b1111);
        Museum.due("b is heard by the fifth in 2", m.x.knows(1, 0, 4), 2);
        m.plan(3, 1, "99");
        m.x.choose(3, 1);
        Museum.due("by the day that is chosen", m.x.knows(1, 0, 3), -2);
        m.law("h9(t=3)");
        Museum.due("in minute 3 alone", m.x.word(0, 0, 2), 0b1);
        Museum.due("in minute 3 alone", m.x.word(0, 0, 3), 0b10111);
        Museum.due("too late", m.x.word(0, 4, 8), 0b1);
    }

    private static void wrong() {
        Museum m = people();
        Museum.due("e ahead of t", m.x.word(0, 5, 4), -1);
        Museum.due("e 96", m.x.word(0, 5, 96), -1);
        Museum.due("t -1", m.x.word(0, -1, 5), -1);
        Museum.due("t 96", m.x.word(0, 96, 96), -1);
        Museum.due("nobody", m.x.word(5, 0, 5), -1);
        Museum.due("person 10", m.x.word(10, 0, 5), -1);
        Museum.due("person -1", m.x.word(-1, 0, 5), -1);
        Museum.due("knows: nobody", m.x.knows(5, 0, 5), -1);
        Museum.due("knows: nobody hears", m.x.knows(0, 0, 5), -1);
        Museum.due("knows: minute 96", m.x.knows(0, 96, 0), -1);
        Museum.due("knows: minute -1", m.x.knows(0, -1, 0), -1);
        Museum.due("knows: person 10", m.x.knows(0, 0, 10), -1);
        Museum.due("knows: person -1", m.x.knows(0, 0, -1), -1);
    }
}
