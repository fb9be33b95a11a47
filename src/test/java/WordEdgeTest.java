/** Edges of A WORD: promises 34 (word) and 35 (knows). */
public final class WordEdgeTest {
    private static final int MOST = Integer.MAX_VALUE;
    private static final int LEAST = Integer.MIN_VALUE;

    public static void main(String[] args) {
        inItsMinute();
        oneMinuteOneVoice();
        saidAgain();
        itself();
        lastMinute();
        wordRefused();
        knowsRefused();
        Museum.end("WordEdgeTest");
    }

    /** Ten people in a row, one spot apart; so far is each heard. */
    private static Museum row(String voice) {
        Museum m = new Museum();
        for (int p = 0; p < 10; p++) {
            m.plan(p, 0, p + "5");
        }
        m.law("h" + voice + "(1=1)");
        return m;
    }

    private static void inItsMinute() {
        Museum.says("who HEARS one of those in a MINUTE knows it at its end");
        Museum m = row("1");
        Museum.due("at the end of the minute itself", m.x.word(0, 7, 7), 0b11);
        Museum.due("both neighbours", m.x.word(4, 7, 7), 0b111000);
        Museum.due("knows in the minute itself", m.x.knows(4, 7, 5), 7);
        Museum.due("at most h apart", row("2").x.word(4, 7, 7), 0b1111100);
        Museum.due("nobody else near", row("0").x.word(4, 7, 95), 0b10000);
    }

    private static void oneMinuteOneVoice() {
        Museum.says("(and says it from the next one on)");
        Museum m = row("1");
        for (int e = 0; e < 9; e++) {
            Museum.due("at the end of " + e, m.x.word(0, 0, e), (1 << e + 2) - 1);
        }
        Museum.due("all know it", m.x.word(0, 0, 9), 1023);
        Museum.due("to the end of the day", m.x.word(0, 0, 95), 1023);
        for (int q = 1; q < 10; q++) {
            Museum.due("knows " + q, m.x.knows(0, 20, q), 20 + q - 1);
            Museum.due("the other way", m.x.knows(9, 20, 9 - q), 20 + q - 1);
        }
    }

    private static void saidAgain() {
        Museum.says("said by a PERSON in a MINUTE, and by all that know it in each MINUTE behind that");
        Museum m = row("0");
        m.law("h1(t=5);h0(1=1)");
        Museum.due("in 5 it is heard", m.x.word(3, 0, 5), 0b11100);
        Museum.due("ahead of it not", m.x.word(3, 0, 4), 0b1000);
        Museum.due("behind it no further", m.x.word(3, 0, 95), 0b11100);
        Museum.due("too late", m.x.word(3, 6, 95), 0b1000);
        Museum.says("HEARS: h asked of the one that is heard");
        m.law("h1(p=3)");
        Museum.due("3 is heard, 4 is not", m.x.word(3, 0, 95), 0b11100);
        Museum.due("4 is not heard", m.x.word(4, 0, 95), 0b10000);
        Museum.says("of THE DAY");
        m.law("h1(1=1)");
        m.plan(1, 1, "09");
        m.x.choose(1, 1);
        Museum.due("1 is away", m.x.word(0, 0, 95), 1);
        Museum.due("1 never knows it", m.x.knows(0, 0, 1), -2);
        m.x.choose(1, 0);
        Museum.due("1 is there", m.x.knows(0, 0, 1), 0);
    }

    private static void itself() {
        Museum.says("who knows it (as bits, itself, too); (p itself: t)");
        Museum m = new Museum();
        m.plan(6, 0, "00");
        Museum.due("alone", m.x.word(6, 3, 3), 64);
        Museum.due("alone to the end", m.x.word(6, 0, 95), 64);
        Museum.due("itself in 0", m.x.knows(6, 0, 6), 0);
        Museum.due("itself in 95", m.x.knows(6, 95, 6), 95);
    }

    private static void lastMinute() {
        Museum.says("at the end of MINUTE e (t to 95)");
        Museum m = row("1");
        Museum.due("95 to 95", m.x.word(0, 95, 95), 0b11);
        Museum.due("94 to 95", m.x.word(0, 94, 95), 0b111);
        Museum.due("e 96", m.x.word(0, 95, 96), -1);
        Museum.due("e ahead of t", m.x.word(0, 95, 94), -1);
        Museum.due("e ahead of t", m.x.word(0, 1, 0), -1);
        Museum.says("knows it first; -2: never");
        Museum.due("in 95", m.x.knows(0, 95, 1), 95);
        Museum.due("not by then", m.x.knows(0, 95, 2), -2);
        Museum.due("by the last minute", m.x.knows(0, 87, 9), 95);
        Museum.due("one too late", m.x.knows(0, 88, 9), -2);
    }

    private static void wordRefused() {
        Museum.says("word: NONE: no such ones");
        Museum m = new Museum();
        m.plan(0, 0, "00");
        int[][] refused = {{-1, 0, 0}, {1, 0, 0}, {10, 0, 0}, {0, -1, 0}, {0, -1, -1}, {0, 96, 96}, {0, 0, -1}, {0, 0, 96},
            {MOST, 0, 0}, {LEAST, 0, 0}, {0, MOST, MOST}, {0, LEAST, 0}, {0, 0, MOST}, {0, 0, LEAST}, {0, LEAST, MOST}};
        for (int[] c : refused) {
            Museum.due("word(" + c[0] + ", " + c[1] + ", " + c[2] + ")", m.x.word(c[0], c[1], c[2]), -1);
        }
    }

    private static void knowsRefused() {
        Museum.says("knows: NONE: no such ones");
        Museum m = new Museum();
        m.plan(0, 0, "00");
        int[][] refused = {{-1, 0, 0}, {1, 0, 0}, {10, 0, 0}, {0, -1, 0}, {0, 96, 0}, {0, 0, -1}, {0, 0, 1}, {0, 0, 10}, {1, 0, 1},
            {10, 0, 10}, {-1, 0, -1}, {MOST, 0, 0}, {LEAST, 0, 0}, {0, MOST, 0}, {0, LEAST, 0}, {0, 0, MOST}, {0, 0, LEAST}};
        for (int[] c : refused) {
            Museum.due("knows(" + c[0] + ", " + c[1] + ", " + c[2] + ")", m.x.knows(c[0], c[1], c[2]), -1);
        }
    }
}
