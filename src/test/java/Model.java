import java.math.BigInteger;
import java.util.ArrayList;
import java.util.Arrays;
import java.util.List;
import java.util.Map;
import java.util.TreeMap;

/** The document written down a second time, as plainly as it goes and with no care for speed. */
final class Model {
    /** A fault of a text. */
    private static final class Fault extends RuntimeException {
        private static final long serialVersionUID = 1L;
        final int answer;

        Fault(int number, int place) {
            super("fault", null, false, false);
            answer = -1000 * number - place;
        }
    }

    /** What is divided by 0. */
    private static final class Refused extends RuntimeException {
        private static final long serialVersionUID = 1L;

        Refused() {
            super("refused", null, false, false);
        }
    }

    /** A piece of the law: an operator with parts, a number or a letter. */
    private static final class Tree {
        final char sign;
        final int number;
        final Tree left;
        final Tree right;

        Tree(char sign, int number, Tree left, Tree right) {
            this.sign = sign;
            this.number = number;
            this.left = left;
            this.right = right;
        }
    }

    private static final class Clause {
        char letter;
        Tree value;
        Tree condition;
    }

    private static final class Report implements Cloneable {
        int witness;
        int minute;
        int slip;
        char letter;
        int other = -2;
        int spot = -2;
    }

    private static final class Day {
        int[] versions = new int[10];
        int sun;
    }

    private List<Integer> tape = new ArrayList<>();
    private int[] kinds = new int[100];
    private final int[][] starts = new int[10][3];
    private final String[][] plans = new String[10][3];
    private List<Clause> law = new ArrayList<>();
    private List<Report> reports = new ArrayList<>();
    private Day today = new Day();
    private List<int[]> stops = new ArrayList<>();
    private int[] tickets = new int[10];
    private int[][] things = new int[6][];
    private Day keptDay;
    private List<Report> keptReports;
    private int[] keptTickets;
    private int[][] keptThings;
    private int[][][] paths = new int[10][3][];
    private byte[] seeing = new byte[10 * 3 * 96 * 10 * 3];
    private String text;
    private int at;

    Model() {
        Arrays.fill(tickets, -2);
    }

    int feed(int a, int b, int c, int d, int e) {
        if (tape.size() > 240) {
            return -1;
        }
        for (int word : new int[] {a, b, c, d, e}) {
            tape.add(word >>> 24);
            tape.add(word >>> 16 & 255);
            tape.add(word >>> 8 & 255);
            tape.add(word & 255);
        }
        return tape.size();
    }

    private boolean take(int n, int most) {
        if (n < 1 || n > most || n > tape.size()) {
            return false;
        }
        StringBuilder all = new StringBuilder();
        for (int i = 0; i < n; i++) {
            all.append((char) (int) tape.get(i));
        }
        text = all.toString();
        at = 0;
        tape.clear();
        return true;
    }

    private char next() {
        return at < text.length() ? text.charAt(at) : 0xffff;
    }

    private char one(String of) {
        char c = next();
        if (of.indexOf(c) < 0) {
            throw new Fault(1, at);
        }
        at++;
        return c;
    }

    private boolean isOne(String of) {
        return of.indexOf(next()) >= 0;
    }

    private int spotHere() {
        int x = one("0123456789") - '0';
        int y = one("0123456789") - '0';
        return 10 * y + x;
    }

    private int minuteHere() {
        int start = at;
        String digits = "" + one("0123456789");
        if (isOne("0123456789")) {
            digits += one("0123456789");
        }
        if (Integer.parseInt(digits) > 95) {
            throw new Fault(2, start);
        }
        return Integer.parseInt(digits);
    }

    private void changed() {
        paths = new int[10][3][];
        seeing = new byte[seeing.length];
    }

    int town(int n) {
        if (!take(n, 160)) {
            return -1;
        }
        try {
            int[] now = new int[100];
            int line = 0;
            do {
                if (line > 0) {
                    one(";");
                }
                int place = at;
                int kind = ".#c".indexOf(one("#c."));
                line++;
                if (line == 27) {
                    throw new Fault(4, place);
                }
                int p = spotHere();
                int q = spotHere();
                for (int spot = 0; spot < 100; spot++) {
                    boolean x = (spot % 10 - p % 10) * (spot % 10 - q % 10) <= 0;
                    boolean y = (spot / 10 - p / 10) * (spot / 10 - q / 10) <= 0;
                    if (x && y) {
                        now[spot] = kind;
                    }
                }
            } while (at < text.length());
            kinds = now;
        } catch (Fault f) {
            return f.answer;
        }
        changed();
        int many = 0;
        for (int kind : kinds) {
            many += kind > 0 ? 1 : 0;
        }
        return many;
    }

    private boolean told(int p) {
        return p >= 0 && p < 10 && plans[p][0] != null;
    }

    private boolean minute(int t) {
        return t >= 0 && t < 96;
    }

    private boolean spot(int s) {
        return s >= 0 && s < 100;
    }

    int plan(int p, int v, int n) {
        if (p < 0 || p > 9 || v < 0 || v > 2 || (v > 0 && !told(p)) || !take(n, 90)) {
            return -1;
        }
        try {
            int start = spotHere();
            if (kinds[start] != 0) {
                throw new Fault(3, 0);
            }
            String all = "";
            while (at < text.length()) {
                all = stepHere(all, 0);
            }
            plans[p][v] = all;
            starts[p][v] = start;
        } catch (Fault f) {
            return f.answer;
        }
        changed();
        return plans[p][v].length();
    }

    private String stepHere(String before, int open) {
        int place = at;
        int times = isOne("23456789") ? one("23456789") - '0' : 1;
        String all = before;
        if (isOne("(")) {
            if (open == 2) {
                throw new Fault(5, at);
            }
            at++;
            do {
                all = stepHere(all, open + 1);
            } while (!isOne(")") && at < text.length());
            one(")");
        } else {
            all += one("nesw.");
        }
        all = before + all.substring(before.length()).repeat(times);
        if (all.length() > 95) {
            throw new Fault(6, place);
        }
        return all;
    }

    boolean has(int p, int v) {
        return told(p) && plans[p][v] != null;
    }

    int[] path(int p, int v) {
        if (paths[p][v] == null) {
            int[] path = new int[96];
            path[0] = starts[p][v];
            for (int t = 1; t < 96; t++) {
                int x = path[t - 1] % 10;
                int y = path[t - 1] / 10;
                char step = t <= plans[p][v].length() ? plans[p][v].charAt(t - 1) : '.';
                x += step == 'e' ? 1 : step == 'w' ? -1 : 0;
                y += step == 'n' ? 1 : step == 's' ? -1 : 0;
                boolean fine = x >= 0 && x < 10 && y >= 0 && y < 10 && kinds[10 * y + x] == 0;
                path[t] = fine ? 10 * y + x : path[t - 1];
            }
            paths[p][v] = path;
        }
        return paths[p][v];
    }

    int law(int n) {
        if (!take(n, 240)) {
            return -1;
        }
        try {
            List<Clause> all = new ArrayList<>();
            do {
                if (!all.isEmpty()) {
                    one(";");
                }
                int place = at;
                Clause clause = new Clause();
                clause.letter = one("alvhr");
                if (all.size() == 16) {
                    throw new Fault(4, place);
                }
                clause.value = sumHere(0);
                one("(");
                clause.condition = eitherHere(1);
                one(")");
                all.add(clause);
            } while (at < text.length());
            law = all;
        } catch (Fault f) {
            return f.answer;
        }
        changed();
        return law.size();
    }

    private void openHere(int open) {
        if (open == 6) {
            throw new Fault(5, at);
        }
        at++;
    }

    private Tree eitherHere(int open) {
        Tree tree = allHere(open);
        while (isOne("|")) {
            at++;
            tree = new Tree('|', 0, tree, allHere(open));
        }
        return tree;
    }

    private Tree allHere(int open) {
        Tree tree = testHere(open);
        while (isOne("&")) {
            at++;
            tree = new Tree('&', 0, tree, testHere(open));
        }
        return tree;
    }

    private Tree testHere(int open) {
        if (isOne("!")) {
            openHere(open);
            return new Tree('!', 0, testHere(open + 1), null);
        }
        if (isOne("(")) {
            openHere(open);
            Tree tree = eitherHere(open + 1);
            one(")");
            return tree;
        }
        Tree left = sumHere(open);
        char sign = one("<>=");
        return new Tree(sign, 0, left, sumHere(open));
    }

    private Tree sumHere(int open) {
        Tree tree = termHere(open);
        while (isOne("+-")) {
            char sign = one("+-");
            tree = new Tree(sign, 0, tree, termHere(open));
        }
        return tree;
    }

    private Tree termHere(int open) {
        Tree tree = factorHere(open);
        while (isOne("*/%")) {
            char sign = one("*/%");
            tree = new Tree(sign, 0, tree, factorHere(open));
        }
        return tree;
    }

    private Tree factorHere(int open) {
        if (isOne("[")) {
            openHere(open);
            Tree tree = sumHere(open + 1);
            one("]");
            return tree;
        }
        if (isOne("tqupxy")) {
            return new Tree(one("tqupxy"), 0, null, null);
        }
        String digits = "" + one("0123456789");
        while (isOne("0123456789")) {
            if (digits.length() == 5) {
                throw new Fault(2, at);
            }
            digits += one("0123456789");
        }
        return new Tree('0', Integer.parseInt(digits), null, null);
    }

    private static int value(Tree tree, Map<Character, Integer> names) {
        if (tree.sign == '0') {
            return tree.number;
        }
        if (tree.left == null) {
            return names.getOrDefault(tree.sign, 0);
        }
        int left = value(tree.left, names);
        int right = value(tree.right, names);
        if ((tree.sign == '/' || tree.sign == '%') && right == 0) {
            throw new Refused();
        }
        switch (tree.sign) {
            case '+': return left + right;
            case '-': return left - right;
            case '*': return left * right;
            case '/': return left / right;
            default: return left % right;
        }
    }

    private static boolean so(Tree tree, Map<Character, Integer> names) {
        switch (tree.sign) {
            case '|': return so(tree.left, names) || so(tree.right, names);
            case '&': return so(tree.left, names) && so(tree.right, names);
            case '!': return !so(tree.left, names);
            case '<': return value(tree.left, names) < value(tree.right, names);
            case '>': return value(tree.left, names) > value(tree.right, names);
            default: return value(tree.left, names) == value(tree.right, names);
        }
    }

    private int asked(char letter, Map<Character, Integer> names) {
        for (Clause clause : law) {
            if (clause.letter == letter) {
                boolean holds = false;
                try {
                    holds = so(clause.condition, names);
                } catch (Refused r) {
                    continue;
                }
                if (holds) {
                    int value = 0;
                    try {
                        value = value(clause.value, names);
                    } catch (Refused r) {
                        return 0;
                    }
                    int most = new int[] {7, 9, 14, 18, 10}["alvhr".indexOf(letter)];
                    return value < 0 ? 0 : value > most ? most : value;
                }
            }
        }
        return 0;
    }

    private int askedAt(char letter, int p, int v, int t) {
        int here = path(p, v)[t];
        return asked(letter, Map.of('t', t, 'q', t / 4, 'p', p, 'x', here % 10, 'y', here / 10));
    }

    int shade(int t, int u) {
        Map<Character, Integer> names = Map.of('t', t, 'q', t / 4, 'u', u);
        return 10 * asked('a', names) + asked('l', names);
    }

    private boolean seesSpot(int p, int v, int t, int spot) {
        return seesFrom(path(p, v)[t], askedAt('v', p, v, t), spot);
    }

    private boolean seesFrom(int here, int far, int spot) {
        if (here == spot) {
            return true;
        }
        for (int dx = -1; dx <= 1; dx++) {
            for (int dy = -1; dy <= 1; dy++) {
                int x = here % 10;
                int y = here / 10;
                for (int i = 1; i <= far; i++) {
                    x += dx;
                    y += dy;
                    if (x < 0 || x > 9 || y < 0 || y > 9) {
                        break;
                    }
                    if (10 * y + x == spot) {
                        return true;
                    }
                    if (kinds[10 * y + x] == 1) {
                        break;
                    }
                }
            }
        }
        return false;
    }

    boolean sees(int p, int v, int t, int q, int w) {
        int cell = (((p * 3 + v) * 96 + t) * 10 + q) * 3 + w;
        if (seeing[cell] == 0) {
            seeing[cell] = (byte) (seesSpot(p, v, t, path(q, w)[t]) ? 1 : 2);
        }
        return seeing[cell] == 1;
    }

    private boolean hears(int p, int v, int t, int q, int w) {
        int here = path(p, v)[t];
        int there = path(q, w)[t];
        int apart = Math.abs(here % 10 - there % 10) + Math.abs(here / 10 - there / 10);
        return apart <= askedAt('h', q, w, t);
    }

    int reports(int n) {
        if (!take(n, 200)) {
            return -1;
        }
        try {
            List<Report> all = new ArrayList<>(reports);
            boolean first = true;
            do {
                if (!first) {
                    one(";");
                }
                first = false;
                all.add(reportHere(all.size()));
            } while (at < text.length());
            reports = all;
        } catch (Fault f) {
            return f.answer;
        }
        return reports.size();
    }

    private Report reportHere(int size) {
        Report r = new Report();
        int place = at;
        r.witness = one("abcdefghij") - 'a';
        if (size == 40) {
            throw new Fault(4, place);
        }
        if (!told(r.witness)) {
            throw new Fault(7, place);
        }
        r.minute = minuteHere();
        if (isOne("~")) {
            at++;
            r.slip = one("0123456789") - '0';
        }
        r.letter = one("sohiwf");
        if ("sohw".indexOf(r.letter) >= 0) {
            place = at;
            r.other = one("abcdefghij") - 'a';
            if (!told(r.other)) {
                throw new Fault(7, place);
            }
            if (r.other == r.witness) {
                throw new Fault(6, place);
            }
        }
        if ("iw".indexOf(r.letter) >= 0) {
            r.spot = spotHere();
        }
        if (r.letter == 'f') {
            if (isOne("89")) {
                throw new Fault(3, at);
            }
            int way = one("01234567") - '0';
            r.spot = 10 * way + (one("0123456789") - '0');
        }
        return r;
    }

    private boolean holds(Report r, Day day) {
        for (int t = r.minute - r.slip; t <= r.minute + r.slip; t++) {
            if (minute(t) && holdsIn(r, day, t)) {
                return true;
            }
        }
        return false;
    }

    private boolean holdsIn(Report r, Day day, int t) {
        int v = day.versions[r.witness];
        int w = r.other < 0 ? 0 : day.versions[r.other];
        switch (r.letter) {
            case 's': return sees(r.witness, v, t, r.other, w);
            case 'o': return !sees(r.witness, v, t, r.other, w);
            case 'h': return hears(r.witness, v, t, r.other, w);
            case 'i': return path(r.witness, v)[t] == r.spot;
            case 'w': return path(r.other, w)[t] == r.spot;
            default: return shade(t, day.sun) == r.spot;
        }
    }

    boolean strike(int i) {
        if (i < 0 || i >= reports.size()) {
            return false;
        }
        reports = new ArrayList<>(reports);
        reports.remove(i);
        return true;
    }

    int gives(int p) {
        if (p < 0 || p > 9) {
            return -1;
        }
        List<Report> stay = new ArrayList<>();
        for (Report r : reports) {
            if (r.witness != p) {
                stay.add(r);
            }
        }
        int many = reports.size() - stay.size();
        reports = stay;
        return many;
    }

    boolean choose(int p, int v) {
        if (!told(p) || v < 0 || v > 2 || plans[p][v] == null) {
            return false;
        }
        today.versions[p] = v;
        return true;
    }

    boolean sun(int u) {
        if (u != 0 && u != 1) {
            return false;
        }
        today.sun = u;
        return true;
    }

    int report(int i, int what) {
        if (i < 0 || i >= reports.size()) {
            return -1;
        }
        Report r = reports.get(i);
        switch (what) {
            case 0: return r.witness;
            case 1: return r.minute;
            case 2: return r.slip;
            case 3: return r.letter;
            case 4: return r.other;
            case 5: return r.spot;
            default: return -1;
        }
    }

    private int here(int p, int t) {
        return path(p, today.versions[p])[t];
    }

    int at(int p, int t) {
        return told(p) && minute(t) ? here(p, t) : -1;
    }

    int sees(int p, int t) {
        return told(p) && minute(t) ? seen(today, p, t) : -1;
    }

    private int seen(Day day, int p, int t) {
        int bits = 0;
        for (int q = 0; q < 10; q++) {
            if (q != p && told(q) && sees(p, day.versions[p], t, q, day.versions[q])) {
                bits |= 1 << q;
            }
        }
        return bits;
    }

    int hears(int p, int t) {
        if (!told(p) || !minute(t)) {
            return -1;
        }
        int bits = 0;
        for (int q = 0; q < 10; q++) {
            if (q != p && told(q) && hears(p, today.versions[p], t, q, today.versions[q])) {
                bits |= 1 << q;
            }
        }
        return bits;
    }

    int shadow(int t, int u, int what) {
        if (!minute(t) || (u != 0 && u != 1) || (what != 0 && what != 1)) {
            return -1;
        }
        return what == 0 ? shade(t, u) / 10 : shade(t, u) % 10;
    }

    int holds(int i) {
        return i < 0 || i >= reports.size() ? -1 : holds(reports.get(i), today) ? 1 : 0;
    }

    int told(int what, boolean face) {
        int many = 0;
        int first = -2;
        for (int i = 0; i < reports.size(); i++) {
            if (holds(i) == 1) {
                many++;
            } else if (first == -2) {
                first = i;
            }
        }
        return what == 0 ? many : what == 1 ? first : -1;
    }

    /** Null: too many. */
    private List<Day> days() {
        List<Day> days = new ArrayList<>();
        long many = 2;
        for (int p = 0; p < 10; p++) {
            int has = 0;
            for (int v = 0; v < 3; v++) {
                has += plans[p][v] != null ? 1 : 0;
            }
            many *= Math.max(1, has);
        }
        if (many > 1458) {
            return null;
        }
        addDays(days, new int[10], 0);
        return days;
    }

    private void addDays(List<Day> days, int[] versions, int p) {
        if (p == 10) {
            for (int u = 0; u < 2; u++) {
                Day day = new Day();
                day.versions = versions.clone();
                day.sun = u;
                days.add(day);
            }
        } else if (!told(p)) {
            addDays(days, versions, p + 1);
        } else {
            for (int v = 0; v < 3; v++) {
                if (plans[p][v] != null) {
                    versions[p] = v;
                    addDays(days, versions, p + 1);
                    versions[p] = 0;
                }
            }
        }
    }

    private long bits(Day day) {
        long bits = 0;
        for (int i = 0; i < reports.size(); i++) {
            bits |= holds(reports.get(i), day) ? 1L << i : 0;
        }
        return bits;
    }

    private List<Day> bestDays() {
        List<Day> best = new ArrayList<>();
        int most = -1;
        for (Day day : days()) {
            int many = Long.bitCount(bits(day));
            if (many > most) {
                most = many;
                best.clear();
            }
            if (many == most) {
                best.add(day);
            }
        }
        return best;
    }

    int best(int what) {
        boolean ofPerson = what >= 10 && told(what - 10);
        if (!ofPerson && (what < 0 || what > 3)) {
            return -1;
        }
        List<Day> days = days();
        if (days == null) {
            return -3;
        }
        List<Day> best = bestDays();
        switch (what) {
            case 0: return Long.bitCount(bits(best.get(0)));
            case 1: return best.get(0).sun;
            case 2: return best.size();
            case 3: return days.size();
            default: return best.get(0).versions[what - 10];
        }
    }

    long struck() {
        if (days() == null) {
            return -3;
        }
        long struck = 0;
        Day best = bestDays().get(0);
        for (int i = 0; i < reports.size(); i++) {
            struck |= holds(reports.get(i), best) ? 0 : 1L << i;
        }
        return struck;
    }

    int quarrel(int what) {
        if (what < 0 || what > 4) {
            return -1;
        }
        if (days() == null) {
            return -3;
        }
        List<Long> bits = new ArrayList<>();
        for (Day day : days()) {
            bits.add(bits(day));
        }
        int n = reports.size();
        for (int size = 1; size <= 3; size++) {
            List<int[]> rows = new ArrayList<>();
            for (int i = 0; i < n; i++) {
                for (int j = size < 2 ? n : i + 1; j <= n; j++) {
                    for (int k = size < 3 ? n : j + 1; k <= n; k++) {
                        boolean fits = (size < 2 || j < n) && (size < 3 || k < n);
                        long set = 1L << i | (size < 2 ? 0 : 1L << j) | (size < 3 ? 0 : 1L << k);
                        if (fits && bits.stream().noneMatch(b -> (b & set) == set)) {
                            rows.add(new int[] {i, j, k});
                        }
                    }
                }
            }
            if (!rows.isEmpty()) {
                return what == 0 ? size : what == 4 ? rows.size() : what > size ? -2 : rows.get(0)[what - 1];
            }
        }
        return what == 4 ? 0 : -2;
    }

    /** who, when, how many at most; who is -2 if nobody is told. */
    private int[] question(List<Day> days) {
        int[] best = {-2, -2, days.size()};
        for (int t = 0; t < 96; t++) {
            for (int p = 0; p < 10; p++) {
                if (told(p)) {
                    int most = 0;
                    for (int many : answers(days, p, t).values()) {
                        most = Math.max(most, many);
                    }
                    if (best[0] == -2 || most < best[2]) {
                        best = new int[] {p, t, most};
                    }
                }
            }
        }
        return best;
    }

    private TreeMap<Integer, Integer> answers(List<Day> days, int p, int t) {
        TreeMap<Integer, Integer> answers = new TreeMap<>();
        for (Day day : days) {
            answers.merge(seen(day, p, t), 1, Integer::sum);
        }
        return answers;
    }

    int ask(int what) {
        if (what < 0 || what > 3) {
            return -1;
        }
        if (days() == null) {
            return -3;
        }
        List<Day> best = bestDays();
        return what == 3 ? best.size() : question(best)[what];
    }

    int enough(int what) {
        if (what < 0 || what > 1) {
            return -1;
        }
        if (days() == null) {
            return -3;
        }
        List<Day> left = bestDays();
        int asked = 0;
        while (left.size() > 1) {
            int[] question = question(left);
            if (question[0] == -2 || question[2] == left.size()) {
                break;
            }
            asked++;
            int answer = 0;
            for (Map.Entry<Integer, Integer> e : answers(left, question[0], question[1]).descendingMap().entrySet()) {
                answer = e.getValue() == question[2] ? e.getKey() : answer;
            }
            List<Day> stay = new ArrayList<>();
            for (Day day : left) {
                if (seen(day, question[0], question[1]) == answer) {
                    stay.add(day);
                }
            }
            left = stay;
        }
        return what == 0 ? asked : left.size();
    }

    private boolean sights(int from, int a, int to, int b) {
        return spot(from) && spot(to) && minute(a) && minute(b) && a <= b && b <= a + 20
            && kinds[from] == 0 && kinds[to] == 0;
    }

    /** The ways from a spot in a minute to another one, that shun a person, or none (-1). */
    private long waysBetween(int from, int a, int to, int b, int shunned) {
        long[] ways = new long[100];
        ways[from] = 1;
        for (int t = a; t <= b; t++) {
            if (t > a) {
                long[] then = new long[100];
                for (int s = 0; s < 100; s++) {
                    int x = s % 10;
                    int y = s / 10;
                    int[] goals = {s, x < 9 ? s + 1 : -1, x > 0 ? s - 1 : -1, y < 9 ? s + 10 : -1, y > 0 ? s - 10 : -1};
                    for (int goal : goals) {
                        if (goal >= 0 && kinds[goal] == 0) {
                            then[goal] += ways[s];
                        }
                    }
                }
                ways = then;
            }
            if (shunned >= 0) {
                ways[here(shunned, t)] = 0;
            }
        }
        return ways[to];
    }

    long between(int from, int a, int to, int b) {
        return sights(from, a, to, b) ? waysBetween(from, a, to, b, -1) : -1;
    }

    private long over(int from, int a, int to, int b, int spot, int m) {
        return kinds[spot] != 0 ? 0 : waysBetween(from, a, spot, m, -1) * waysBetween(spot, m, to, b, -1);
    }

    long through(int from, int a, int to, int b, int spot, int m) {
        return sights(from, a, to, b) && spot(spot) && m >= a && m <= b ? over(from, a, to, b, spot, m) : -1;
    }

    int maybe(int from, int a, int to, int b, int m) {
        if (!sights(from, a, to, b) || m < a || m > b) {
            return -1;
        }
        int many = 0;
        for (int s = 0; s < 100; s++) {
            many += over(from, a, to, b, s, m) > 0 ? 1 : 0;
        }
        return many;
    }

    int met(int from, int a, int to, int b) {
        if (!sights(from, a, to, b)) {
            return -1;
        }
        if (waysBetween(from, a, to, b, -1) == 0) {
            return -2;
        }
        int bits = 0;
        for (int p = 0; p < 10; p++) {
            bits |= told(p) && waysBetween(from, a, to, b, p) == 0 ? 1 << p : 0;
        }
        return bits;
    }

    int liar(int i) {
        if (i < 0 || i >= reports.size() || reports.get(i).letter != 'f') {
            return -1;
        }
        Day day = new Day();
        int bits = holds(reports.get(i), day) ? 1 : 0;
        day.sun = 1;
        return bits | (holds(reports.get(i), day) ? 2 : 0);
    }

    int falls(int way, int length, int u, int what) {
        if (way < 0 || way > 7 || length < 0 || length > 9 || u < 0 || u > 1 || what < 0 || what > 2) {
            return -1;
        }
        List<Integer> when = new ArrayList<>();
        for (int t = 0; t < 96; t++) {
            if (shadow(t, u, 0) == way && shadow(t, u, 1) == length) {
                when.add(t);
            }
        }
        return what == 0 ? when.size() : when.isEmpty() ? -2 : when.get(what == 1 ? 0 : when.size() - 1);
    }

    int argued(int u) {
        if (u < 0 || u > 1) {
            return -1;
        }
        int many = 0;
        for (int i = 0; i < reports.size(); i++) {
            many += liar(i) >= 0 && (liar(i) >> u & 1) == 1 ? 1 : 0;
        }
        return many;
    }

    int tram(int n) {
        if (!take(n, 90)) {
            return -1;
        }
        try {
            List<int[]> all = new ArrayList<>();
            do {
                if (!all.isEmpty()) {
                    one(",");
                }
                if (all.size() == 12 && isOne("0123456789")) {
                    throw new Fault(4, at);
                }
                int spot = spotHere();
                one(":");
                int place = at;
                int minute = minuteHere();
                if (!all.isEmpty() && minute <= all.get(all.size() - 1)[1]) {
                    throw new Fault(7, place);
                }
                all.add(new int[] {spot, minute});
            } while (at < text.length());
            stops = all;
        } catch (Fault f) {
            return f.answer;
        }
        return stops.size();
    }

    boolean found(int p, int ticket) {
        if (!told(p) || ticket < -1 || ticket > 9) {
            return false;
        }
        for (int q = 0; q < 10 && ticket >= 0; q++) {
            tickets[q] = tickets[q] == ticket ? -2 : tickets[q];
        }
        tickets[p] = ticket < 0 ? -2 : ticket;
        return true;
    }

    private int stopOf(int p) {
        for (int i = 0; i < stops.size(); i++) {
            if (here(p, stops.get(i)[1]) == stops.get(i)[0]) {
                return i;
            }
        }
        return -2;
    }

    private int sold() {
        int many = 0;
        for (int p = 0; p < 10; p++) {
            many += told(p) && stopOf(p) >= 0 ? 1 : 0;
        }
        return many;
    }

    /** All rows, each with the ticket of each person (-2: none). */
    private List<int[]> rows() {
        List<int[]> rows = new ArrayList<>();
        int[] stopOfTicket = new int[sold()];
        int next = 0;
        for (int i = 0; i < stops.size(); i++) {
            for (int p = 0; p < 10; p++) {
                if (told(p) && stopOf(p) == i) {
                    stopOfTicket[next++] = i;
                }
            }
        }
        for (int p = 0; p < 10; p++) {
            if (tickets[p] >= 0 && (!told(p) || stopOf(p) < 0)) {
                return rows;
            }
        }
        int[] row = new int[10];
        Arrays.fill(row, -2);
        addRows(rows, row, stopOfTicket, 0);
        return rows;
    }

    private void addRows(List<int[]> rows, int[] row, int[] stopOfTicket, int p) {
        if (p == 10) {
            rows.add(row.clone());
            return;
        }
        if (!told(p) || stopOf(p) < 0) {
            addRows(rows, row, stopOfTicket, p + 1);
            return;
        }
        for (int ticket = 0; ticket < stopOfTicket.length; ticket++) {
            boolean free = true;
            for (int q = 0; q < p; q++) {
                free = free && row[q] != ticket;
            }
            boolean fits = stopOfTicket[ticket] == stopOf(p) && (tickets[p] < 0 || tickets[p] == ticket);
            if (free && fits) {
                row[p] = ticket;
                addRows(rows, row, stopOfTicket, p + 1);
                row[p] = -2;
            }
        }
    }

    int tickets(int what) {
        if (what >= 10 && told(what - 10)) {
            return stopOf(what - 10);
        }
        if (what == 0) {
            return sold();
        }
        if (what == 1) {
            return rows().size();
        }
        if (what != 2) {
            return -1;
        }
        int missing = 0;
        for (int ticket = 0; ticket < sold(); ticket++) {
            boolean found = false;
            for (int p = 0; p < 10; p++) {
                found = found || (tickets[p] == ticket && stopOf(p) >= 0);
            }
            missing += found ? 0 : 1;
        }
        return missing;
    }

    int mayHave(int ticket) {
        if (ticket < 0 || ticket >= sold()) {
            return -1;
        }
        int bits = 0;
        for (int[] row : rows()) {
            for (int p = 0; p < 10; p++) {
                bits |= row[p] == ticket ? 1 << p : 0;
            }
        }
        return bits;
    }

    int word(int p, int t, int e) {
        if (!told(p) || !minute(t) || !minute(e) || e < t) {
            return -1;
        }
        boolean[] know = new boolean[10];
        know[p] = true;
        for (int m = t; m <= e; m++) {
            boolean[] then = know.clone();
            for (int q = 0; q < 10; q++) {
                for (int s = 0; s < 10; s++) {
                    if (know[s] && told(q) && q != s && hears(q, today.versions[q], m, s, today.versions[s])) {
                        then[q] = true;
                    }
                }
            }
            know = then;
        }
        int bits = 0;
        for (int q = 0; q < 10; q++) {
            bits |= know[q] ? 1 << q : 0;
        }
        return bits;
    }

    int knows(int p, int t, int q) {
        if (!told(p) || !minute(t) || !told(q)) {
            return -1;
        }
        for (int e = t; e < 96; e++) {
            if ((word(p, t, e) >> q & 1) == 1) {
                return e;
            }
        }
        return -2;
    }

    int paged(int spot, int t, int what) {
        if (!spot(spot) || kinds[spot] != 0 || !minute(t) || (what != 0 && what != 1)) {
            return -1;
        }
        int who = -2;
        int fewest = -2;
        for (int p = 0; p < 10; p++) {
            int steps = told(p) ? stepsTo(here(p, t), spot) : -2;
            if (steps >= 0 && (who == -2 || steps < fewest)) {
                who = p;
                fewest = steps;
            }
        }
        return what == 0 ? who : fewest;
    }

    private int stepsTo(int from, int to) {
        boolean[] reached = new boolean[100];
        reached[from] = true;
        for (int steps = 0; steps < 100; steps++) {
            if (reached[to]) {
                return steps;
            }
            boolean[] then = reached.clone();
            for (int s = 0; s < 100; s++) {
                for (int g = 0; g < 100; g++) {
                    boolean near = Math.abs(s % 10 - g % 10) + Math.abs(s / 10 - g / 10) == 1;
                    if (reached[s] && near && kinds[g] == 0) {
                        then[g] = true;
                    }
                }
            }
            reached = then;
        }
        return -2;
    }

    boolean thing(int i, int spot) {
        if (i < 0 || i > 5 || !spot(spot)) {
            return false;
        }
        things[i] = new int[] {spot, -1, 0, 0};
        return true;
    }

    boolean carry(int i, int p, int a, int b) {
        if (i < 0 || i > 5 || things[i] == null || !told(p) || !minute(a) || !minute(b) || b < a) {
            return false;
        }
        things[i] = new int[] {things[i][0], p, a, b};
        return true;
    }

    int where(int i, int t) {
        if (i < 0 || i > 5 || things[i] == null || !minute(t)) {
            return -1;
        }
        int[] thing = things[i];
        if (thing[1] < 0 || here(thing[1], thing[2]) != thing[0] || t < thing[2]) {
            return thing[0];
        }
        return t <= thing[3] ? here(thing[1], t) : here(thing[1], thing[3]);
    }

    private boolean watched(int spot, int t) {
        for (int p = 0; p < 10; p++) {
            if (told(p) && seesSpot(p, today.versions[p], t, spot)) {
                return true;
            }
        }
        return false;
    }

    int unseen(int t, int what) {
        return minute(t) ? never(t, t, what) : -1;
    }

    int never(int a, int b, int what) {
        if (!minute(a) || !minute(b) || b < a || (what != 0 && what != 1)) {
            return -1;
        }
        boolean[] hidden = new boolean[100];
        for (int s = 0; s < 100; s++) {
            hidden[s] = kinds[s] != 1;
        }
        for (int t = a; t <= b; t++) {
            for (int p = 0; p < 10; p++) {
                if (told(p)) {
                    int far = askedAt('v', p, today.versions[p], t);
                    for (int s = 0; s < 100; s++) {
                        hidden[s] = hidden[s] && !seesFrom(here(p, t), far, s);
                    }
                }
            }
        }
        int many = 0;
        int lowest = -2;
        for (int s = 99; s >= 0; s--) {
            many += hidden[s] ? 1 : 0;
            lowest = hidden[s] ? s : lowest;
        }
        return what == 0 ? many : lowest;
    }

    int blind(int spot) {
        if (!spot(spot) || kinds[spot] == 1) {
            return -1;
        }
        String seen = "";
        for (int t = 0; t < 96; t++) {
            seen += watched(spot, t) ? "|" : ".";
        }
        int longest = 0;
        for (String stretch : seen.split("\\|")) {
            longest = Math.max(longest, stretch.length());
        }
        return longest;
    }

    int halves(int n, int apart, int what) {
        if (n < 1 || n > 10 || !minute(apart) || tape.size() < 3 * n) {
            return -1;
        }
        int[][] half = new int[n][];
        boolean fine = true;
        for (int i = 0; i < n; i++) {
            half[i] = new int[] {tape.get(3 * i), tape.get(3 * i + 1), tape.get(3 * i + 2)};
            fine = fine && half[i][0] < 2 && half[i][1] < 96 && half[i][2] < 100;
        }
        tape.clear();
        if (!fine) {
            return -2;
        }
        if (what != 20 && (what < 0 || what >= n)) {
            return -4;
        }
        List<int[]> best = new ArrayList<>();
        int[] row = new int[n];
        Arrays.fill(row, 10);
        everyRow(half, apart, row, 0, best);
        return what == 20 ? kisses(best.get(0)) : best.get(0)[what];
    }

    private static int kisses(int[] row) {
        int many = 0;
        for (int partner : row) {
            many += partner < 10 ? 1 : 0;
        }
        return many / 2;
    }

    private static boolean before(int[][] half, int[] row, int[] other) {
        if (kisses(row) != kisses(other)) {
            return kisses(row) > kisses(other);
        }
        for (int i = 0; i < row.length; i++) {
            if (half[i][0] == 0 && row[i] != other[i]) {
                return row[i] < other[i];
            }
        }
        return false;
    }

    private static void everyRow(int[][] half, int apart, int[] row, int i, List<int[]> best) {
        if (i == half.length) {
            if (best.isEmpty() || before(half, row, best.get(0))) {
                best.clear();
                best.add(row.clone());
            }
            return;
        }
        everyRow(half, apart, row, i + 1, best);
        for (int j = 0; j < half.length && half[i][0] == 0; j++) {
            boolean near = Math.abs(half[i][2] % 10 - half[j][2] % 10) < 2 && Math.abs(half[i][2] / 10 - half[j][2] / 10) < 2;
            if (half[j][0] == 1 && row[j] == 10 && near && Math.abs(half[i][1] - half[j][1]) <= apart) {
                row[i] = j;
                row[j] = i;
                everyRow(half, apart, row, i + 1, best);
                row[i] = 10;
                row[j] = 10;
            }
        }
    }

    long sure(int tenths, int n, int what) {
        if (tenths < 0 || tenths > 10 || n < 1 || n > 8 || (what != 0 && what != 1) || tape.size() < n) {
            return -1;
        }
        BigInteger yes = BigInteger.valueOf(tenths);
        BigInteger no = BigInteger.valueOf(10 - tenths);
        boolean untold = false;
        for (int i = 0; i < n; i++) {
            int said = tape.get(i);
            int p = said < 16 ? said : said - 16;
            untold = untold || !told(p);
            int right = asked('r', Map.of('p', p));
            yes = yes.multiply(BigInteger.valueOf(said < 16 ? right : 10 - right));
            no = no.multiply(BigInteger.valueOf(said < 16 ? 10 - right : right));
        }
        tape.clear();
        if (untold) {
            return -3;
        }
        BigInteger all = yes.add(no);
        if (all.signum() == 0) {
            return -2;
        }
        return (what == 0 ? yes : all).divide(yes.gcd(all)).longValueExact();
    }

    int keep() {
        keptDay = new Day();
        keptDay.versions = today.versions.clone();
        keptDay.sun = today.sun;
        keptReports = reports;
        keptTickets = tickets.clone();
        keptThings = things.clone();
        return reports.size();
    }

    boolean undo() {
        if (keptDay == null) {
            return false;
        }
        today.versions = keptDay.versions.clone();
        today.sun = keptDay.sun;
        reports = keptReports;
        tickets = keptTickets.clone();
        things = keptThings.clone();
        return true;
    }

    int check(int p, int n) {
        if (!told(p) || n < 0 || n > 96 || tape.size() < n) {
            return -2;
        }
        int wrong = -1;
        for (int t = n - 1; t >= 0; t--) {
            wrong = tape.get(t) == here(p, t) ? wrong : t;
        }
        tape.clear();
        return wrong;
    }

    int count(int what) {
        if (what >= 100 && what < 200) {
            return kinds[what - 100];
        }
        int p = what % 10;
        if (what >= 10 && what < 50 && told(p)) {
            switch (what / 10) {
                case 1: return today.versions[p];
                case 2: return 1 | (plans[p][1] != null ? 2 : 0) | (plans[p][2] != null ? 4 : 0);
                case 3: return tickets[p];
                default: return plans[p][today.versions[p]].length();
            }
        }
        switch (what) {
            case 0:
                int people = 0;
                for (int q = 0; q < 10; q++) {
                    people |= told(q) ? 1 << q : 0;
                }
                return people;
            case 1: return reports.size();
            case 2: return law.size();
            case 3: return tape.size();
            case 4: return today.sun;
            case 5: return stops.size();
            case 6:
                int laid = 0;
                for (int i = 0; i < 6; i++) {
                    laid |= things[i] != null ? 1 << i : 0;
                }
                return laid;
            default: return -1;
        }
    }
}
