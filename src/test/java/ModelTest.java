/** Long runs of calls, drawn by a fixed row of numbers, on the program and on the model: the answers must be the same. */
public final class ModelTest {
    private static long state;
    private static Museum m;
    private static Model model;
    private static int run;
    private static int versionsWanted;
    /** People that are near one another, with plans and reports that often make sense. */
    private static boolean lively;

    public static void main(String[] args) {
        int runs = args.length > 0 ? Integer.parseInt(args[0]) : 60;
        int first = args.length > 1 ? Integer.parseInt(args[1]) : 1;
        for (run = first; run < first + runs; run++) {
            state = 1000003L * run + 17;
            for (int i = 0; i < 5; i++) {
                below(2);
            }
            m = new Museum();
            model = new Model();
            lively = run % 4 != 0;
            versionsWanted = run % 20 == 1 ? 40 : run % 10 == 3 ? 12 : below(6);
            if (lively) {
                fillMuseum();
            }
            for (int i = 0; i < 150; i++) {
                turn(lively ? -1 : i < 14 ? i : -1);
            }
        }
        Museum.end("ModelTest");
    }

    private static void fillMuseum() {
        changeTown(0);
        int people = 2 + below(oneIn(3) ? 9 : 5);
        for (int p = 0; p < Math.min(10, people); p++) {
            tellPlan(oneIn(4) ? below(10) : p, 0);
        }
        for (int i = 0; i < versionsWanted; i++) {
            tellPlan(below(people), 1 + below(2));
        }
        int n = feed("v" + (oneIn(3) ? "t/5+1" : "" + (1 + below(4))) + "(" + (oneIn(3) ? "p>1" : "t%7<5") + ");h" + below(6)
            + "(" + (oneIn(2) ? "x>2" : "1=1") + ");a[t/10+u]%8(1=1);l[t/7+u*3]%10(1=1);r[3+p*2](p<4);r8(p>5)");
        same("law", m.x.law(n), model.law(n));
        for (int i = 0; i < 3; i++) {
            changeReports();
        }
        changeTram();
    }

    private static void tellPlan(int p, int v) {
        String text = "" + below(5) + below(5) + (oneIn(9) ? "" : steps(0, 12));
        text = text.length() > 90 ? text.substring(0, 90) : text;
        int n = feed(text);
        same("plan " + p + ", " + v + " " + text, m.x.plan(p, v, n), model.plan(p, v, n));
    }

    private static int below(int n) {
        state = state * 6364136223846793005L + 1442695040888963407L;
        return (int) ((state >>> 33) % n);
    }

    private static boolean oneIn(int n) {
        return below(n) == 0;
    }

    private static char of(String signs) {
        return signs.charAt(below(signs.length()));
    }

    /** A number of a range, or at times one outside it. */
    private static int in(int least, int most) {
        if (oneIn(40)) {
            return new int[] {least - 1, most + 1, Integer.MIN_VALUE, Integer.MAX_VALUE, -1}[below(5)];
        }
        return least + below(most - least + 1);
    }

    private static void same(String call, long got, long want) {
        Museum.due("run " + run + ": " + call, got, want);
    }

    private static void feed(int... bytes) {
        for (int start = 0; start < bytes.length; start += 20) {
            int[] w = new int[5];
            for (int i = 0; i < 20; i++) {
                int value = start + i < bytes.length ? bytes[start + i] : below(20) == 0 ? below(256) : 32;
                w[i / 4] = w[i / 4] << 8 | (value & 255);
            }
            same("feed", m.x.feed(w[0], w[1], w[2], w[3], w[4]), model.feed(w[0], w[1], w[2], w[3], w[4]));
        }
    }

    private static int feed(String text) {
        int[] bytes = new int[text.length()];
        for (int i = 0; i < bytes.length; i++) {
            bytes[i] = text.charAt(i);
        }
        feed(bytes);
        return oneIn(30) ? in(-1, text.length()) : text.length();
    }

    /** At times a text with a sign put in, out or changed. */
    private static String slipped(String text, String signs) {
        if (!oneIn(5) || text.isEmpty()) {
            return text;
        }
        int place = below(text.length());
        switch (below(3)) {
            case 0: return text.substring(0, place) + of(signs) + text.substring(place);
            case 1: return text.substring(0, place) + text.substring(place + 1);
            default: return text.substring(0, place) + of(signs) + text.substring(place + 1);
        }
    }

    private static String digits(int n) {
        String all = "";
        for (int i = 0; i < n; i++) {
            all += of("0123456789");
        }
        return all;
    }

    private static String townText() {
        String all = "";
        int lines = oneIn(15) ? 24 + below(4) : 1 + below(6);
        for (int i = 0; i < lines; i++) {
            int x = below(10);
            int y = below(10);
            int right = Math.min(9, x + below(3));
            int top = Math.max(0, y - below(3));
            all += (i > 0 ? ";" : "") + of("##cc..") + x + y + right + top;
        }
        return slipped(all, "#c.;0123456789a");
    }

    private static String steps(int depth, int most) {
        String all = "";
        int many = 1 + below(most);
        for (int i = 0; i < many; i++) {
            all += oneIn(2) ? "" + of("23456789") : "";
            all += depth < (oneIn(9) ? 3 : 2) && oneIn(6) ? "(" + steps(depth + 1, 4) + ")" : "" + of("nesw.");
        }
        return all;
    }

    private static String planText() {
        String all = (oneIn(2) ? digits(2) : below(4) + "" + below(4)) + (oneIn(12) ? "" : steps(0, 16));
        all = all.length() > 90 ? all.substring(0, 90) : all;
        return slipped(all, "nesw.()0123456789;");
    }

    private static String sum(int depth) {
        String all = term(depth);
        for (int i = 0; i < 2 && oneIn(3); i++) {
            all += of("+-") + term(depth);
        }
        return all;
    }

    private static String term(int depth) {
        String all = factor(depth);
        for (int i = 0; i < 2 && oneIn(4); i++) {
            all += of("*/%") + factor(depth);
        }
        return all;
    }

    private static String factor(int depth) {
        if (depth < 6 && oneIn(9)) {
            return "[" + sum(depth + 1) + "]";
        }
        return oneIn(2) ? "" + of("tqupxy") : oneIn(8) ? digits(1 + below(5)) : "" + below(oneIn(4) ? 100 : 12);
    }

    private static String either(int depth) {
        String all = test(depth);
        for (int i = 0; i < 3 && oneIn(3); i++) {
            all += of("|&") + test(depth);
        }
        return all;
    }

    private static String test(int depth) {
        if (depth < 6 && oneIn(6)) {
            return "!" + test(depth + 1);
        }
        if (depth < 6 && oneIn(6)) {
            return "(" + either(depth + 1) + ")";
        }
        return sum(depth) + of("<>=") + sum(depth);
    }

    private static String lawText() {
        String all = "";
        int clauses = oneIn(12) ? 15 + below(3) : 1 + below(8);
        for (int i = 0; i < clauses; i++) {
            String value = clauses < 15 && oneIn(2) ? sum(0) : "" + below(12);
            String condition = clauses < 15 && !oneIn(3) ? either(1) : "1=1";
            all += (i > 0 ? ";" : "") + of("alvvhhr") + value + "(" + condition + ")";
        }
        all = slipped(all, "alvhr;()[]!&|<>=+-*/%0123456789tqupxyz");
        return all.length() > 240 ? all.substring(0, 240) : all;
    }

    private static String deepLaw() {
        String all = "v3(";
        String ends = "";
        for (int i = 0; i < 5; i++) {
            all += of("((!");
        }
        all += oneIn(2) ? "1=1" : "[1]=1";
        for (int i = 3; i < 8; i++) {
            ends += all.charAt(i) == '(' ? ")" : "";
        }
        return all + ends + ")";
    }

    private static char person() {
        int told = model.count(0);
        for (int i = 0; i < 12 && told != 0; i++) {
            int p = below(10);
            if ((told >> p & 1) == 1) {
                return (char) ('a' + p);
            }
        }
        return (char) ('a' + below(11));
    }

    private static int versionOf(int p) {
        int v = below(3);
        return model.has(p, v) ? v : 0;
    }

    /** Reports each of which holds in some day, though not all in one. */
    private static String likelyReports() {
        String all = "";
        int lines = 1 + below(8);
        for (int i = 0; i < lines; i++) {
            int p = person() - 'a';
            int q = person() - 'a';
            int t = below(oneIn(2) ? 10 : 96);
            if (!model.has(p, 0) || !model.has(q, 0)) {
                continue;
            }
            int v = versionOf(p);
            int w = versionOf(q);
            char letter = of("iwsf");
            int u = below(2);
            int slip = oneIn(4) ? below(4) : 0;
            int spot = letter == 'i' || p == q ? model.path(p, v)[t] : model.path(q, w)[t];
            String digits = "" + spot % 10 + spot / 10;
            all += (all.isEmpty() ? "" : ";") + (char) ('a' + p) + t + (slip > 0 ? "~" + slip : "");
            if (letter == 'f') {
                all += "f" + model.shade(t, u) / 10 + model.shade(t, u) % 10;
            } else if (letter == 'i' || p == q) {
                all += "i" + digits;
            } else if (letter == 'w') {
                all += "w" + (char) ('a' + q) + digits;
            } else {
                all += (model.sees(p, v, t, q, w) ? "s" : "o") + (char) ('a' + q);
            }
        }
        return all;
    }

    private static String reportText() {
        if (lively && !oneIn(6)) {
            return likelyReports();
        }
        String all = "";
        int lines = oneIn(9) ? 14 + below(8) : 1 + below(6);
        for (int i = 0; i < lines; i++) {
            all += i > 0 ? ";" : "";
            all += "" + person() + (oneIn(60) ? 96 + below(4) : below(oneIn(2) ? 10 : 96));
            all += oneIn(3) ? "~" + below(10) : "";
            char letter = of("sohiwff");
            all += letter;
            all += "sohw".indexOf(letter) >= 0 ? "" + person() : "";
            if ("iw".indexOf(letter) >= 0) {
                int t = below(96);
                int here = model.at(below(10), t);
                all += here < 0 ? digits(2) : "" + here % 10 + here / 10;
            }
            if (letter == 'f') {
                all += oneIn(2) ? "" + model.shadow(below(96), below(2), 0) + model.shadow(below(96), below(2), 1) : digits(2);
            }
        }
        all = all.length() > 200 ? all.substring(0, 200) : all;
        return oneIn(3) ? slipped(all, "abj;~sohiwf0123456789") : all;
    }

    private static String tramText() {
        String all = "";
        int stops = oneIn(6) ? 11 + below(3) : 1 + below(6);
        int minute = -1;
        for (int i = 0; i < stops; i++) {
            minute += oneIn(25) ? 0 : 1 + below(stops > 10 ? 5 : 12);
            int here = oneIn(5) ? -1 : model.at(below(10), Math.max(0, Math.min(95, minute)));
            all += (i > 0 ? "," : "") + (here < 0 ? digits(2) : "" + here % 10 + here / 10) + ":" + Math.max(0, minute);
        }
        all = all.length() > 90 ? all.substring(0, 90) : all;
        return oneIn(2) ? slipped(all, ",:0123456789;a") : all;
    }

    private static void turn(int start) {
        int kind = start < 0 ? below(13) : start == 0 ? 0 : start == 8 ? 2 : start > 8 && start < 12 ? 3 : start == 13 ? 4 : 1;
        switch (kind) {
            case 0: changeTown(start); break;
            case 1:
                if (!lively) {
                    changePlan();
                } else if (oneIn(2)) {
                    tellPlan(below(9), below(oneIn(3) ? 3 : 1));
                }
                break;
            case 2: changeLaw(); break;
            case 3: changeReports(); break;
            case 4: changeTram(); break;
            case 5: changeDay(); break;
            case 6: askSenses(); break;
            case 7: askDays(); break;
            case 8: askWays(); break;
            case 9: askShadows(); break;
            case 10: askTram(); break;
            case 11: askThings(); break;
            default: askTape(); break;
        }
    }

    private static void changeTown(int start) {
        if (start < 0 && !oneIn(lively ? 12 : 4)) {
            return;
        }
        String text = townText();
        int n = feed(text);
        same("town " + text, m.x.town(n), model.town(n));
        int what = in(100, 199);
        same("count(" + what + ")", m.x.count(what), model.count(what));
    }

    private static void changePlan() {
        int p = oneIn(2) ? below(4) : in(0, 9);
        int v = oneIn(2) || versionsWanted <= 0 ? 0 : in(1, 2);
        versionsWanted -= v > 0 ? 1 : 0;
        String text = planText();
        int n = feed(text);
        same("plan " + p + ", " + v + " " + text, m.x.plan(p, v, n), model.plan(p, v, n));
    }

    private static void changeLaw() {
        if (lively && !oneIn(25)) {
            return;
        }
        String text = oneIn(8) ? deepLaw() : lawText();
        int n = feed(text);
        same("law " + text, m.x.law(n), model.law(n));
    }

    private static void changeReports() {
        String text = reportText();
        int n = feed(text);
        same("reports " + text, m.x.reports(n), model.reports(n));
        if (oneIn(3)) {
            int i = in(0, 40);
            same("strike(" + i + ")", m.x.strike(i) ? 1 : 0, model.strike(i) ? 1 : 0);
        }
        if (oneIn(8)) {
            int p = in(0, 9);
            same("gives(" + p + ")", m.x.gives(p), model.gives(p));
        }
        int i = in(0, Math.max(0, model.count(1) - 1));
        int what = in(0, 5);
        same("report(" + i + ", " + what + ")", m.x.report(i, what), model.report(i, what));
        same("holds(" + i + ")", m.x.holds(i), model.holds(i));
        same("liar(" + i + ")", m.x.liar(i), model.liar(i));
    }

    private static void changeTram() {
        String text = tramText();
        int n = feed(text);
        same("tram " + text, m.x.tram(n), model.tram(n));
    }

    private static void changeDay() {
        int p = in(0, 9);
        int v = in(0, 2);
        same("choose(" + p + ", " + v + ")", m.x.choose(p, v) ? 1 : 0, model.choose(p, v) ? 1 : 0);
        int u = in(0, 1);
        same("sun(" + u + ")", m.x.sun(u) ? 1 : 0, model.sun(u) ? 1 : 0);
        if (oneIn(3)) {
            same("keep()", m.x.keep(), model.keep());
        }
        if (oneIn(3)) {
            same("undo()", m.x.undo() ? 1 : 0, model.undo() ? 1 : 0);
        }
        int what = oneIn(2) ? in(0, 6) : in(7, 60);
        same("count(" + what + ")", m.x.count(what), model.count(what));
        for (what = 0; what < 7; what++) {
            same("count(" + what + ")", m.x.count(what), model.count(what));
        }
    }

    private static void askSenses() {
        int p = in(0, 9);
        int t = in(0, 95);
        same("at(" + p + ", " + t + ")", m.x.at(p, t), model.at(p, t));
        same("sees(" + p + ", " + t + ")", m.x.sees(p, t), model.sees(p, t));
        same("hears(" + p + ", " + t + ")", m.x.hears(p, t), model.hears(p, t));
        int what = in(0, 1);
        same("unseen(" + t + ", " + what + ")", m.x.unseen(t, what), model.unseen(t, what));
        int b = oneIn(3) ? in(0, 95) : t < 80 && t >= 0 ? t + below(9) : t;
        same("never(" + t + ", " + b + ", " + what + ")", m.x.never(t, b, what), model.never(t, b, what));
        int spot = in(0, 99);
        same("blind(" + spot + ")", m.x.blind(spot), model.blind(spot));
    }

    private static void askDays() {
        int what = in(0, 4);
        same("told(" + what + ")", m.x.told(what), model.told(what, true));
        int of = oneIn(2) ? what : in(10, 19);
        same("best(" + of + ")", m.x.best(of), model.best(of));
        same("struck()", m.x.struck(), model.struck());
        same("quarrel(" + what + ")", m.x.quarrel(what), model.quarrel(what));
        same("ask(" + what + ")", m.x.ask(what), model.ask(what));
        same("enough(" + what + ")", m.x.enough(what), model.enough(what));
    }

    private static void askWays() {
        int from = in(0, 99);
        int to = oneIn(3) ? in(0, 99) : Math.max(0, Math.min(99, from + new int[] {0, 1, -1, 10, -10, 11, 2, 20}[below(8)]));
        int a = oneIn(3) ? in(0, 95) : below(12);
        int b = a > 90 || a < 0 ? in(0, 95) : Math.min(96, a + below(oneIn(9) ? 23 : 7));
        int m1 = a < 0 || b < a || b > 95 ? below(96) : oneIn(8) ? in(a, b) : a + below(b - a + 1);
        if (oneIn(2) && model.at(1, a < 0 ? 0 : Math.min(95, a)) >= 0) {
            from = model.at(1, a < 0 ? 0 : Math.min(95, a));
            to = oneIn(2) ? from : to;
        }
        int spot = oneIn(2) ? from : in(0, 99);
        String of = "(" + from + ", " + a + ", " + to + ", " + b + ")";
        same("between" + of, m.x.between(from, a, to, b), model.between(from, a, to, b));
        same("through" + of + spot + ", " + m1, m.x.through(from, a, to, b, spot, m1), model.through(from, a, to, b, spot, m1));
        same("maybe" + of + m1, m.x.maybe(from, a, to, b, m1), model.maybe(from, a, to, b, m1));
        same("met" + of, m.x.met(from, a, to, b), model.met(from, a, to, b));
        int what = in(0, 1);
        same("paged(" + from + ", " + a + ", " + what + ")", m.x.paged(from, a, what), model.paged(from, a, what));
    }

    private static void askShadows() {
        int t = in(0, 95);
        int u = in(0, 1);
        int what = in(0, 1);
        same("shadow(" + t + ", " + u + ", " + what + ")", m.x.shadow(t, u, what), model.shadow(t, u, what));
        int way = oneIn(2) ? in(0, 7) : model.shadow(below(96), below(2), 0);
        int length = oneIn(2) ? in(0, 9) : model.shadow(below(96), below(2), 1);
        what = in(0, 2);
        same("falls(" + way + ", " + length + ", " + u + ", " + what + ")", m.x.falls(way, length, u, what),
            model.falls(way, length, u, what));
        same("argued(" + u + ")", m.x.argued(u), model.argued(u));
    }

    private static void askTram() {
        int p = in(0, 9);
        int ticket = oneIn(3) ? in(-1, 9) : in(-1, Math.max(0, model.tickets(0) - 1));
        if (oneIn(2)) {
            same("found(" + p + ", " + ticket + ")", m.x.found(p, ticket) ? 1 : 0, model.found(p, ticket) ? 1 : 0);
        }
        int what = oneIn(3) ? in(10, 19) : in(0, 2);
        same("tickets(" + what + ")", m.x.tickets(what), model.tickets(what));
        same("mayHave(" + ticket + ")", m.x.mayHave(ticket), model.mayHave(ticket));
        int t = in(0, 95);
        int e = oneIn(3) ? in(0, 95) : Math.min(95, Math.max(0, t) + below(5));
        int q = in(0, 9);
        same("word(" + p + ", " + t + ", " + e + ")", m.x.word(p, t, e), model.word(p, t, e));
        same("knows(" + p + ", " + t + ", " + q + ")", m.x.knows(p, t, q), model.knows(p, t, q));
    }

    private static void askThings() {
        int i = in(0, 5);
        int p = in(0, 9);
        int a = in(0, 95);
        int b = oneIn(3) ? in(0, 95) : a < 90 && a >= 0 ? a + below(5) : a;
        int t = in(0, 95);
        if (oneIn(2)) {
            int spot = model.at(p, a) < 0 || oneIn(4) ? in(0, 99) : model.at(p, a);
            same("thing(" + i + ", " + spot + ")", m.x.thing(i, spot) ? 1 : 0, model.thing(i, spot) ? 1 : 0);
        }
        if (oneIn(2)) {
            same("carry(" + i + ", " + p + ", " + a + ", " + b + ")", m.x.carry(i, p, a, b) ? 1 : 0,
                model.carry(i, p, a, b) ? 1 : 0);
        }
        same("where(" + i + ", " + t + ")", m.x.where(i, t), model.where(i, t));
        same("where(" + i + ", " + b + ")", m.x.where(i, b), model.where(i, b));
    }

    private static void askTape() {
        int n = in(1, 10);
        int many = Math.max(1, Math.min(10, n));
        if (oneIn(2)) {
            int[] bytes = new int[3 * many];
            int home = below(100);
            for (int i = 0; i < many; i++) {
                bytes[3 * i] = below(oneIn(60) ? 3 : 2);
                bytes[3 * i + 1] = oneIn(90) ? below(256) : 40 + below(12);
                int spot = home + new int[] {0, 1, 2, 10, 11, 12, 20, 21}[below(8)];
                bytes[3 * i + 2] = spot < 100 || oneIn(30) ? spot : 99;
            }
            feed(bytes);
            int apart = oneIn(5) ? in(0, 95) : below(8);
            int what = oneIn(2) ? 20 : in(0, many - 1);
            same("halves(" + n + ", " + apart + ", " + what + ")", m.x.halves(n, apart, what), model.halves(n, apart, what));
            return;
        }
        if (oneIn(2)) {
            int[] bytes = new int[many];
            for (int i = 0; i < many; i++) {
                bytes[i] = oneIn(30) ? below(256) : person() - 'a' + (oneIn(2) ? 16 : 0);
            }
            feed(bytes);
            int tenths = in(0, 10);
            int what = in(0, 1);
            same("sure(" + tenths + ", " + n + ", " + what + ")", m.x.sure(tenths, n, what), model.sure(tenths, n, what));
            return;
        }
        int p = in(0, 9);
        int length = in(0, 96);
        int[] bytes = new int[Math.max(0, Math.min(96, length))];
        for (int t = 0; t < bytes.length; t++) {
            bytes[t] = Math.max(0, model.at(p, t)) + (oneIn(90) ? 1 : 0);
        }
        feed(bytes);
        same("check(" + p + ", " + length + ")", m.x.check(p, length), model.check(p, length));
    }
}
