/** A museum that is fed with texts and compares its answers with those that are due. */
final class Museum {
    private static int wrong;
    private static int asked;
    private static String sentence = "";

    DayMuseum x = new DayMuseum();

    /** What the document says, put ahead of the answers below it that are not due. */
    static void says(String words) {
        sentence = "\"" + words + "\": ";
    }

    static void due(String call, long got, long want) {
        asked++;
        if (got != want) {
            wrong++;
            System.out.println(sentence + call + " answered " + got + ", due is " + want);
        }
    }

    static void due(String call, String got, String want) {
        asked++;
        if (!got.equals(want)) {
            wrong++;
            System.out.println(sentence + call + " answered " + got + ", due is " + want);
        }
    }

    static void due(String call, boolean got, boolean want) {
        due(call, got ? 1 : 0, want ? 1 : 0);
    }

    /** The end of a test's main method: 1 if an answer was not the one that is due. */
    static void end(String test) {
        System.out.println(test + ": " + asked + " answers, " + wrong + " wrong");
        System.exit(wrong == 0 && asked > 0 ? 0 : 1);
    }

    /** Bytes on the tape, and blanks up to the next twenty. */
    int feed(int... bytes) {
        int last = x.count(3);
        for (int start = 0; start < bytes.length; start += 20) {
            int[] words = new int[5];
            for (int i = 0; i < 20; i++) {
                int value = start + i < bytes.length ? bytes[start + i] : ' ';
                words[i / 4] = words[i / 4] << 8 | (value & 255);
            }
            last = x.feed(words[0], words[1], words[2], words[3], words[4]);
        }
        return last;
    }

    int feed(String text) {
        int[] bytes = new int[text.length()];
        for (int i = 0; i < bytes.length; i++) {
            bytes[i] = text.charAt(i);
        }
        return feed(bytes);
    }

    int town(String text) {
        feed(text);
        return x.town(text.length());
    }

    int plan(int p, int v, String text) {
        feed(text);
        return x.plan(p, v, text.length());
    }

    int law(String text) {
        feed(text);
        return x.law(text.length());
    }

    int reports(String text) {
        feed(text);
        return x.reports(text.length());
    }

    int tram(String text) {
        feed(text);
        return x.tram(text.length());
    }

    static String times(String text, int n) {
        StringBuilder all = new StringBuilder();
        for (int i = 0; i < n; i++) {
            all.append(text);
        }
        return all.toString();
    }

    /** Parts with a sign between two. */
    static String row(String part, String sign, int n) {
        return part + times(sign + part, n - 1);
    }
}
