import java.util.Arrays;

/** The museum of one day: what ../shared/DOC.md promises, call by call. */
public final class DayMuseum {
    public static final int NONE = -1;

    /** What an answer says where there is nothing, but the call was not wrong. */
    private static final int NOTHING = -2;
    private static final int TOO_MANY = -3;
    private static final int NOT_TOLD = -3;
    private static final int NO_PLACE = -4;

    private static final int MINUTES = 96;
    private static final int SPOTS = 100;
    private static final int PEOPLE = 10;
    private static final int VERSIONS = 3;
    private static final int PLANS = PEOPLE * VERSIONS;

    private static final int CANT_STAND = 1;
    private static final int TOO_HIGH = 2;
    private static final int NO_SUCH_GROUND = 3;
    private static final int ONE_TOO_MANY = 4;
    private static final int TOO_DEEP = 5;
    private static final int WITNESS_AGAIN = 6;
    private static final int TOO_LONG = 6;
    private static final int UNTOLD = 7;
    private static final int NOT_ABOVE = 7;

    private final Tape tape = new Tape();
    private final Town town = new Town();
    private final People people = new People(town);
    private final Law law = new Law();
    private final Senses senses = new Senses(town, people, law);
    private final Reports reports = new Reports(people, senses);
    private final Days days = new Days(people, reports);
    private final Questions questions = new Questions(people, senses, days);
    private final Ways ways = new Ways(town, people);
    private final Luggage luggage = new Luggage(people);
    private final Kisses kisses = new Kisses();
    private boolean keptOnce;

    public DayMuseum() {
        keptOnce = false;
    }

    public int feed(int a, int b, int c, int d, int e) {
        if (!tape.hasRoom()) {
            return NONE;
        }
        tape.add(a);
        tape.add(b);
        tape.add(c);
        tape.add(d);
        tape.add(e);
        return tape.size();
    }

    public int town(int n) {
        if (!tape.open(n, Town.TEXT)) {
            return NONE;
        }
        if (town.read(tape)) {
            people.walk();
            senses.forget();
        }
        return tape.close(town.notPlain());
    }

    public int plan(int p, int v, int n) {
        if (!isPerson(p) || !isVersion(v) || (v > 0 && !people.isTold(p)) || !tape.open(n, People.TEXT)) {
            return NONE;
        }
        int plan = VERSIONS * p + v;
        if (people.read(tape, plan)) {
            people.walk();
            senses.forget();
        }
        return tape.close(people.length(plan));
    }

    public int law(int n) {
        if (!tape.open(n, Law.TEXT)) {
            return NONE;
        }
        if (law.read(tape)) {
            senses.forget();
        }
        return tape.close(law.size());
    }

    public int reports(int n) {
        if (!tape.open(n, Reports.TEXT)) {
            return NONE;
        }
        reports.read(tape);
        return tape.close(reports.size());
    }

    public boolean strike(int i) {
        if (!reports.has(i)) {
            return false;
        }
        reports.takeOut(i);
        return true;
    }

    public int gives(int p) {
        return isPerson(p) ? reports.takeOutAllOf(p) : NONE;
    }

    public boolean choose(int p, int v) {
        if (!people.isTold(p) || !isVersion(v) || !people.has(VERSIONS * p + v)) {
            return false;
        }
        people.pick(p, v);
        return true;
    }

    public boolean sun(int u) {
        if (!isSun(u)) {
            return false;
        }
        people.pickSun(u);
        return true;
    }

    public int report(int i, int what) {
        return reports.has(i) && what >= 0 && what < Reports.PARTS ? reports.part(i, what) : NONE;
    }

    public int at(int p, int t) {
        return people.isTold(p) && isMinute(t) ? people.spotToday(p, t) : NONE;
    }

    public int sees(int p, int t) {
        return people.isTold(p) && isMinute(t) ? senses.seenToday(p, t) : NONE;
    }

    public int hears(int p, int t) {
        return people.isTold(p) && isMinute(t) ? senses.heardToday(p, t) : NONE;
    }

    public int shadow(int t, int u, int what) {
        if (!isMinute(t) || !isSun(u) || what < 0 || what > 1) {
            return NONE;
        }
        int cast = senses.cast(t, u);
        return what == 0 ? cast / 10 : cast % 10;
    }

    public int holds(int i) {
        if (!reports.has(i)) {
            return NONE;
        }
        return reports.isSoToday(i) ? 1 : 0;
    }

    public int told(int what) {
        if (what == 0) {
            return reports.soToday();
        }
        return what == 1 ? reports.firstNotSoToday() : NONE;
    }

    public int best(int what) {
        boolean ofPerson = people.isTold(less(what, 10));
        if ((what < 0 || what > 3) && !ofPerson) {
            return NONE;
        }
        if (!days.judge()) {
            return TOO_MANY;
        }
        if (ofPerson) {
            return days.bestVersion(what - 10);
        }
        if (what == 0) {
            return days.most();
        }
        if (what == 1) {
            return days.bestSun();
        }
        return what == 2 ? days.alike() : days.size();
    }

    public long struck() {
        return days.judge() ? days.notHeldInBest() : TOO_MANY;
    }

    public int quarrel(int what) {
        if (what < 0 || what > 4) {
            return NONE;
        }
        return days.judge() ? days.clashes(what) : TOO_MANY;
    }

    public int ask(int what) {
        if (what < 0 || what > 3) {
            return NONE;
        }
        return days.judge() ? questions.first(what) : TOO_MANY;
    }

    public int enough(int what) {
        if (what < 0 || what > 1) {
            return NONE;
        }
        return days.judge() ? questions.all(what) : TOO_MANY;
    }

    public long between(int from, int a, int to, int b) {
        return ways.open(from, a, to, b) ? ways.all() : NONE;
    }

    public long through(int from, int a, int to, int b, int spot, int m) {
        if (!ways.open(from, a, to, b) || !isSpot(spot) || m < a || m > b) {
            return NONE;
        }
        return ways.over(spot, m);
    }

    public int maybe(int from, int a, int to, int b, int m) {
        return ways.open(from, a, to, b) && m >= a && m <= b ? ways.spotsIn(m) : NONE;
    }

    public int met(int from, int a, int to, int b) {
        if (!ways.open(from, a, to, b)) {
            return NONE;
        }
        return ways.all() == 0 ? NOTHING : ways.sureToMeet();
    }

    public int liar(int i) {
        return reports.isOfShadow(i) ? reports.sunsFor(i) : NONE;
    }

    public int falls(int way, int length, int u, int what) {
        if (way < 0 || way > 7 || length < 0 || length > 9 || !isSun(u) || what < 0 || what > 2) {
            return NONE;
        }
        return senses.casts(10 * way + length, u, what);
    }

    public int argued(int u) {
        return isSun(u) ? reports.shadowsBy(u) : NONE;
    }

    public int tram(int n) {
        if (!tape.open(n, Luggage.TEXT)) {
            return NONE;
        }
        luggage.readStops(tape);
        return tape.close(luggage.stops());
    }

    public boolean found(int p, int ticket) {
        if (!people.isTold(p) || ticket < NONE || ticket >= PEOPLE) {
            return false;
        }
        luggage.findWith(p, ticket);
        return true;
    }

    public int tickets(int what) {
        boolean ofPerson = people.isTold(less(what, 10));
        if ((what < 0 || what > 2) && !ofPerson) {
            return NONE;
        }
        luggage.board();
        if (ofPerson) {
            return luggage.stopOf(what - 10);
        }
        if (what == 0) {
            return luggage.sold();
        }
        return what == 1 ? luggage.rows() : luggage.missing();
    }

    public int mayHave(int ticket) {
        luggage.board();
        return ticket >= 0 && ticket < luggage.sold() ? luggage.holders(ticket) : NONE;
    }

    public int word(int p, int t, int e) {
        if (!people.isTold(p) || !isMinute(t) || !isMinute(e) || e < t) {
            return NONE;
        }
        int knowing = 1 << p;
        for (int m = t; m <= e; m++) {
            knowing = senses.passedOn(knowing, m);
        }
        return knowing;
    }

    public int knows(int p, int t, int q) {
        if (!people.isTold(p) || !isMinute(t) || !people.isTold(q)) {
            return NONE;
        }
        if (p == q) {
            return t;
        }
        int knowing = 1 << p;
        for (int m = t; m < MINUTES; m++) {
            knowing = senses.passedOn(knowing, m);
            if ((knowing >> q & 1) == 1) {
                return m;
            }
        }
        return NOTHING;
    }

    public int paged(int spot, int t, int what) {
        if (!town.isPlain(spot) || !isMinute(t) || what < 0 || what > 1) {
            return NONE;
        }
        return ways.nearest(spot, t, what);
    }

    public boolean thing(int i, int spot) {
        if (!Luggage.isThing(i) || !isSpot(spot)) {
            return false;
        }
        luggage.lay(i, spot);
        return true;
    }

    public boolean carry(int i, int p, int a, int b) {
        if (!luggage.isLaid(i) || !people.isTold(p) || !isMinute(a) || !isMinute(b) || b < a) {
            return false;
        }
        luggage.giveTo(i, p, a, b);
        return true;
    }

    public int where(int i, int t) {
        return luggage.isLaid(i) && isMinute(t) ? luggage.placeOf(i, t) : NONE;
    }

    public int unseen(int t, int what) {
        if (!isMinute(t) || what < 0 || what > 1) {
            return NONE;
        }
        return senses.hidden(t, t, what);
    }

    public int never(int a, int b, int what) {
        if (!isMinute(a) || !isMinute(b) || b < a || what < 0 || what > 1) {
            return NONE;
        }
        return senses.hidden(a, b, what);
    }

    public int blind(int spot) {
        return isSpot(spot) && !town.isWall(spot) ? senses.longestUnwatched(spot) : NONE;
    }

    public int halves(int n, int apart, int what) {
        if (n < 1 || n > Kisses.HALVES || !isMinute(apart) || !tape.has(3 * n)) {
            return NONE;
        }
        boolean fine = kisses.load(tape, n, apart);
        tape.clear();
        if (!fine) {
            return NOTHING;
        }
        if (what != Kisses.HOW_MANY && (what < 0 || what >= n)) {
            return NO_PLACE;
        }
        return kisses.answer(what);
    }

    public long sure(int tenths, int n, int what) {
        if (tenths < 0 || tenths > 10 || n < 1 || n > 8 || what < 0 || what > 1 || !tape.has(n)) {
            return NONE;
        }
        long yes = tenths;
        long no = 10 - tenths;
        boolean allTold = true;
        for (int i = 0; i < n; i++) {
            int said = tape.byteAt(i);
            allTold = allTold && said < 32 && people.isTold(said & 15);
            int right = law.reckon('r', 0, 0, said & 15, 0);
            boolean denied = (said & 16) != 0;
            yes *= denied ? 10 - right : right;
            no *= denied ? right : 10 - right;
        }
        tape.clear();
        if (!allTold) {
            return NOT_TOLD;
        }
        if (yes + no == 0) {
            return NOTHING;
        }
        return (what == 0 ? yes : yes + no) / commonDivisor(yes + no, yes);
    }

    public int keep() {
        keptOnce = true;
        people.store();
        reports.store();
        luggage.store();
        return reports.size();
    }

    public boolean undo() {
        if (!keptOnce) {
            return false;
        }
        people.restore();
        reports.restore();
        luggage.restore();
        return true;
    }

    public int check(int p, int n) {
        if (!people.isTold(p) || n < 0 || n > MINUTES || !tape.has(n)) {
            return NOTHING;
        }
        int wrong = NONE;
        for (int t = 0; t < n && wrong == NONE; t++) {
            if (tape.byteAt(t) != people.spotToday(p, t)) {
                wrong = t;
            }
        }
        tape.clear();
        return wrong;
    }

    public int count(int what) {
        if (what >= 100 && what < 100 + SPOTS) {
            return town.kind(what - 100);
        }
        if (what >= 10 && what < 50) {
            return countOf(what % 10, what / 10);
        }
        switch (what) {
            case 0: return people.toldBits();
            case 1: return reports.size();
            case 2: return law.size();
            case 3: return tape.size();
            case 4: return people.sunToday();
            case 5: return luggage.stops();
            case 6: return luggage.laidBits();
            default: return NONE;
        }
    }

    private int countOf(int p, int what) {
        if (!people.isTold(p)) {
            return NONE;
        }
        switch (what) {
            case 1: return people.version(p);
            case 2: return people.versionBits(p);
            case 3: return luggage.foundWith(p);
            case 4: return people.length(people.planToday(p));
            default: return NONE;
        }
    }

    /** What is left of a number of the kind 10 + p, without a wrap-around for the lowest ints. */
    private static int less(int what, int base) {
        return what < base ? NONE : what - base;
    }

    private static boolean isPerson(int p) {
        return p >= 0 && p < PEOPLE;
    }

    private static boolean isVersion(int v) {
        return v >= 0 && v < VERSIONS;
    }

    private static boolean isMinute(int t) {
        return t >= 0 && t < MINUTES;
    }

    private static boolean isSpot(int spot) {
        return spot >= 0 && spot < SPOTS;
    }

    private static boolean isSun(int u) {
        return u == 0 || u == 1;
    }

    /** Of two numbers from 0 on, of which the first is not 0. Sixty-four rounds are more than two longs can need here. */
    private static long commonDivisor(long a, long b) {
        long one = a;
        long other = b;
        for (int round = 0; round < 64 && other != 0; round++) {
            long rest = one % other;
            one = other;
            other = rest;
        }
        return one;
    }

    /** The bytes that were fed, and the place up to which one of the texts among them has been read. */
    private static final class Tape {
        private static final int MOST = 260;
        private static final int END = -1;

        private final int[] bytes = new int[MOST];
        private int size;
        private int end;
        private int place;
        private int fault;

        int size() {
            return size;
        }

        boolean hasRoom() {
            return size + 20 <= MOST;
        }

        void add(int value) {
            for (int shift = 24; shift >= 0 && size < MOST; shift -= 8) {
                bytes[size] = value >> shift & 255;
                size++;
            }
        }

        boolean has(int n) {
            return n <= size;
        }

        int byteAt(int i) {
            return i >= 0 && i < size ? bytes[i] : END;
        }

        void clear() {
            size = 0;
            end = 0;
            place = 0;
        }

        boolean open(int n, int most) {
            if (n < 1 || n > most || n > size) {
                return false;
            }
            end = n;
            place = 0;
            fault = 0;
            return true;
        }

        int close(int answer) {
            clear();
            return fault == 0 ? answer : fault;
        }

        int next() {
            return place < end ? bytes[place] : END;
        }

        boolean atEnd() {
            return place >= end;
        }

        int place() {
            return place;
        }

        void skip() {
            place++;
        }

        /** Always false, so that a reader can end with it. */
        boolean fail(int number, int where) {
            fault = -1000 * number - where;
            return false;
        }

        boolean wrong() {
            return fail(CANT_STAND, place);
        }

        boolean take(int sign) {
            if (next() != sign) {
                return fail(CANT_STAND, place);
            }
            place++;
            return true;
        }

        boolean isDigit() {
            return next() >= '0' && next() <= '9';
        }

        /** A digit; NONE and a fault if none stands here. */
        int digit() {
            int sign = next();
            if (sign < '0' || sign > '9') {
                fail(CANT_STAND, place);
                return NONE;
            }
            place++;
            return sign - '0';
        }

        /** The digits x and y; NONE and a fault if they don't stand here. */
        int spot() {
            int x = digit();
            int y = x < 0 ? NONE : digit();
            return y < 0 ? NONE : 10 * y + x;
        }

        /** One or two digits up to 95; NONE and a fault if they don't stand here. */
        int minute() {
            int start = place;
            int minute = digit();
            if (minute >= 0 && isDigit()) {
                minute = 10 * minute + digit();
            }
            if (minute >= MINUTES) {
                fail(TOO_HIGH, start);
                return NONE;
            }
            return minute;
        }
    }

    /** The spots, and how far one can look from each to each. */
    private static final class Town {
        private static final int TEXT = 160;
        private static final int LINES = 26;
        private static final int PLAIN = 0;
        private static final int WALL = 1;
        private static final int CANAL = 2;
        /** Further than any eye reaches. */
        private static final int FAR = 99;
        private static final int[] WAY_X = {1, 1, 0, -1, -1, -1, 0, 1};
        private static final int[] WAY_Y = {0, 1, 1, 1, 0, -1, -1, -1};

        private final int[] kinds = new int[SPOTS];
        private final int[] fresh = new int[SPOTS];
        private final int[] away = new int[SPOTS * SPOTS];

        Town() {
            measure();
        }

        int kind(int spot) {
            return kinds[spot];
        }

        boolean isPlain(int spot) {
            return isSpot(spot) && kinds[spot] == PLAIN;
        }

        boolean isWall(int spot) {
            return isSpot(spot) && kinds[spot] == WALL;
        }

        int notPlain() {
            int many = 0;
            for (int spot = 0; spot < SPOTS; spot++) {
                many += kinds[spot] == PLAIN ? 0 : 1;
            }
            return many;
        }

        /** The spots from one to the other in a line that no wall breaks; FAR if there is no such line. */
        int away(int from, int to) {
            return away[SPOTS * from + to];
        }

        /** NONE off the town. */
        int next(int spot, int way) {
            int x = spot % 10 + WAY_X[way];
            int y = spot / 10 + WAY_Y[way];
            return x < 0 || x > 9 || y < 0 || y > 9 ? NONE : 10 * y + x;
        }

        boolean read(Tape tape) {
            Arrays.fill(fresh, PLAIN);
            for (int line = 0; line <= LINES; line++) {
                if (!readLine(tape, line)) {
                    return false;
                }
                if (tape.atEnd()) {
                    System.arraycopy(fresh, 0, kinds, 0, SPOTS);
                    measure();
                    return true;
                }
                if (!tape.take(';')) {
                    return false;
                }
            }
            return false;
        }

        private boolean readLine(Tape tape, int line) {
            int kind = kindOf(tape.next());
            if (kind == NONE) {
                return tape.wrong();
            }
            if (line == LINES) {
                return tape.fail(ONE_TOO_MANY, tape.place());
            }
            tape.skip();
            int one = tape.spot();
            int other = one < 0 ? NONE : tape.spot();
            if (other < 0) {
                return false;
            }
            fill(one, other, kind);
            return true;
        }

        private static int kindOf(int sign) {
            switch (sign) {
                case '.': return PLAIN;
                case '#': return WALL;
                case 'c': return CANAL;
                default: return NONE;
            }
        }

        private void fill(int one, int other, int kind) {
            int right = Math.max(one % 10, other % 10);
            int top = Math.max(one / 10, other / 10);
            for (int y = Math.min(one / 10, other / 10); y <= top; y++) {
                for (int x = Math.min(one % 10, other % 10); x <= right; x++) {
                    fresh[10 * y + x] = kind;
                }
            }
        }

        private void measure() {
            Arrays.fill(away, FAR);
            for (int from = 0; from < SPOTS; from++) {
                away[SPOTS * from + from] = 0;
                for (int way = 0; way < 8; way++) {
                    lookAlong(from, way);
                }
            }
        }

        /** A wall itself is seen, but nothing behind it. */
        private void lookAlong(int from, int way) {
            int spot = next(from, way);
            for (int far = 1; far < 10 && spot != NONE; far++) {
                away[SPOTS * from + spot] = far;
                spot = kinds[spot] == WALL ? NONE : next(spot, way);
            }
        }
    }

    /** The plans, number 3 p + v, where they lead in this town, and the versions and the sun of THE DAY. */
    private static final class People {
        private static final int TEXT = 90;
        private static final int STEPS = 95;
        private static final int STAY = 8;
        private static final int GROUPS = 2;

        private final Town town;
        private final int[] starts = new int[PLANS];
        private final int[] lengths = new int[PLANS];
        private final int[] steps = new int[PLANS * STEPS];
        private final int[] spots = new int[PLANS * MINUTES];
        /** One more than a plan may have: the step that is too many is written, then told. */
        private final int[] fresh = new int[STEPS + 1];
        private int freshSize;
        private final int[] versions = new int[PEOPLE];
        private final int[] keptVersions = new int[PEOPLE];
        private int sun;
        private int keptSun;

        People(Town town) {
            this.town = town;
            Arrays.fill(lengths, NONE);
        }

        boolean has(int plan) {
            return lengths[plan] >= 0;
        }

        boolean isTold(int p) {
            return isPerson(p) && has(VERSIONS * p);
        }

        int length(int plan) {
            return lengths[plan];
        }

        int toldBits() {
            int bits = 0;
            for (int p = 0; p < PEOPLE; p++) {
                bits |= isTold(p) ? 1 << p : 0;
            }
            return bits;
        }

        int versionBits(int p) {
            int bits = 0;
            for (int v = 0; v < VERSIONS; v++) {
                bits |= has(VERSIONS * p + v) ? 1 << v : 0;
            }
            return bits;
        }

        int version(int p) {
            return versions[p];
        }

        void pick(int p, int v) {
            versions[p] = v;
        }

        int sunToday() {
            return sun;
        }

        void pickSun(int u) {
            sun = u;
        }

        int planToday(int p) {
            return VERSIONS * p + versions[p];
        }

        int spot(int plan, int t) {
            return spots[MINUTES * plan + t];
        }

        int spotToday(int p, int t) {
            return spot(planToday(p), t);
        }

        void store() {
            System.arraycopy(versions, 0, keptVersions, 0, PEOPLE);
            keptSun = sun;
        }

        void restore() {
            System.arraycopy(keptVersions, 0, versions, 0, PEOPLE);
            sun = keptSun;
        }

        boolean read(Tape tape, int plan) {
            freshSize = 0;
            int start = tape.spot();
            if (start < 0) {
                return false;
            }
            if (!town.isPlain(start)) {
                return tape.fail(NO_SUCH_GROUND, 0);
            }
            if (!tape.atEnd() && !readSteps(tape, 0)) {
                return false;
            }
            if (!tape.atEnd()) {
                return tape.wrong();
            }
            starts[plan] = start;
            lengths[plan] = freshSize;
            System.arraycopy(fresh, 0, steps, STEPS * plan, freshSize);
            return true;
        }

        /** One step at least, up to the end or to the ) of a group. */
        private boolean readSteps(Tape tape, int depth) {
            for (int step = 0; step < TEXT; step++) {
                if (!readStep(tape, depth)) {
                    return false;
                }
                if (tape.atEnd() || (depth > 0 && tape.next() == ')')) {
                    return true;
                }
            }
            return true;
        }

        private boolean readStep(Tape tape, int depth) {
            int place = tape.place();
            int before = freshSize;
            int times = 1;
            if (tape.next() >= '2' && tape.next() <= '9') {
                times = tape.digit();
            }
            if (tape.next() == '(') {
                if (depth >= GROUPS) {
                    return tape.fail(TOO_DEEP, tape.place());
                }
                tape.skip();
                if (!readSteps(tape, depth + 1) || !tape.take(')')) {
                    return false;
                }
            } else {
                int way = wayOf(tape.next());
                if (way == NONE) {
                    return tape.wrong();
                }
                tape.skip();
                fresh[freshSize] = way;
                freshSize++;
            }
            return repeat(before, times) || tape.fail(TOO_LONG, place);
        }

        private static int wayOf(int sign) {
            switch (sign) {
                case 'e': return 0;
                case 'n': return 2;
                case 'w': return 4;
                case 's': return 6;
                case '.': return STAY;
                default: return NONE;
            }
        }

        private boolean repeat(int before, int times) {
            int block = freshSize - before;
            if (before + times * block > STEPS) {
                return false;
            }
            for (int time = 1; time < times; time++) {
                System.arraycopy(fresh, before, fresh, freshSize, block);
                freshSize += block;
            }
            return true;
        }

        /** Where all plans lead now. */
        void walk() {
            for (int plan = 0; plan < PLANS; plan++) {
                if (has(plan)) {
                    walkOne(plan);
                }
            }
        }

        private void walkOne(int plan) {
            int spot = starts[plan];
            spots[MINUTES * plan] = spot;
            for (int t = 1; t < MINUTES; t++) {
                int way = t <= lengths[plan] ? steps[STEPS * plan + t - 1] : STAY;
                int next = way == STAY ? spot : town.next(spot, way);
                spot = town.isPlain(next) ? next : spot;
                spots[MINUTES * plan + t] = spot;
            }
        }
    }

    /** The law, made of its text into a row of small orders for a stack of numbers. */
    private static final class Law {
        private static final int TEXT = 240;
        private static final int CLAUSES = 16;
        private static final int BRACKETS = 6;
        private static final int DIGITS = 5;

        private static final int EITHER = 0;
        private static final int ALL = 1;
        private static final int TEST = 2;
        private static final int SUM = 3;
        private static final int TERM = 4;
        private static final int FACTOR = 5;

        private static final int NUMBER = 0;
        private static final int NAME = 1;
        private static final int IF_NOT = 2;
        private static final int IF_SO = 3;
        private static final int NOT = 4;
        private static final int LESS = 5;
        private static final int MORE = 6;
        private static final int SAME = 7;
        private static final int PLUS = 8;
        private static final int MINUS = 9;
        private static final int TIMES = 10;
        private static final int THROUGH = 11;
        private static final int REST = 12;

        /** Letter, and where its E, its C and the next clause start. */
        private static final int PARTS = 4;
        private static final char[] NAMES = {'t', 'q', 'u', 'p', 'x', 'y'};

        private final int[] orders = new int[TEXT];
        private final int[] freshOrders = new int[TEXT];
        private final int[] clauses = new int[PARTS * CLAUSES];
        private final int[] freshClauses = new int[PARTS * CLAUSES];
        private final int[] stack = new int[TEXT];
        private final int[] named = new int[NAMES.length];
        private int size;
        private int freshSize;

        int size() {
            return size;
        }

        boolean read(Tape tape) {
            freshSize = 0;
            for (int clause = 0; clause <= CLAUSES; clause++) {
                if (!readClause(tape, clause)) {
                    return false;
                }
                if (tape.atEnd()) {
                    size = clause + 1;
                    System.arraycopy(freshOrders, 0, orders, 0, freshSize);
                    System.arraycopy(freshClauses, 0, clauses, 0, PARTS * size);
                    return true;
                }
                if (!tape.take(';')) {
                    return false;
                }
            }
            return false;
        }

        private boolean readClause(Tape tape, int clause) {
            int letter = tape.next();
            if (mostOf(letter) < 0) {
                return tape.wrong();
            }
            if (clause == CLAUSES) {
                return tape.fail(ONE_TOO_MANY, tape.place());
            }
            tape.skip();
            freshClauses[PARTS * clause] = letter;
            freshClauses[PARTS * clause + 1] = freshSize;
            if (!readLevel(tape, SUM, 0) || !tape.take('(')) {
                return false;
            }
            freshClauses[PARTS * clause + 2] = freshSize;
            if (!readLevel(tape, EITHER, 1) || !tape.take(')')) {
                return false;
            }
            freshClauses[PARTS * clause + 3] = freshSize;
            return true;
        }

        /** The bound of what a clause of a letter says; NONE: there is no such letter. */
        private static int mostOf(int letter) {
            switch (letter) {
                case 'a': return 7;
                case 'l': return 9;
                case 'v': return 14;
                case 'h': return 18;
                case 'r': return 10;
                default: return NONE;
            }
        }

        /** C, PART, E and TERM are all the next level, joined by signs of their own: one method reads the four. */
        private boolean readLevel(Tape tape, int level, int depth) {
            if (level == TEST) {
                return readTest(tape, depth);
            }
            if (level == FACTOR) {
                return readFactor(tape, depth);
            }
            boolean fine = readLevel(tape, level + 1, depth);
            for (int i = 0; i < TEXT && fine; i++) {
                int order = joint(level, tape.next());
                if (order == NONE) {
                    return true;
                }
                tape.skip();
                int leap = freshSize;
                if (order == IF_SO || order == IF_NOT) {
                    write(order, 0);
                }
                fine = readLevel(tape, level + 1, depth);
                if (order == IF_SO || order == IF_NOT) {
                    freshOrders[leap] = freshSize << 4 | order;
                } else {
                    write(order, 0);
                }
            }
            return fine;
        }

        /** The order for a sign that joins two of the next level; NONE if it joins none there. */
        private static int joint(int level, int sign) {
            switch (sign) {
                case '|': return level == EITHER ? IF_SO : NONE;
                case '&': return level == ALL ? IF_NOT : NONE;
                case '+': return level == SUM ? PLUS : NONE;
                case '-': return level == SUM ? MINUS : NONE;
                case '*': return level == TERM ? TIMES : NONE;
                case '/': return level == TERM ? THROUGH : NONE;
                case '%': return level == TERM ? REST : NONE;
                default: return NONE;
            }
        }

        private boolean readTest(Tape tape, int depth) {
            int sign = tape.next();
            if (sign != '!' && sign != '(') {
                return readComparison(tape, depth);
            }
            if (depth >= BRACKETS) {
                return tape.fail(TOO_DEEP, tape.place());
            }
            tape.skip();
            if (sign == '(') {
                return readLevel(tape, EITHER, depth + 1) && tape.take(')');
            }
            return readLevel(tape, TEST, depth + 1) && write(NOT, 0);
        }

        private boolean readComparison(Tape tape, int depth) {
            if (!readLevel(tape, SUM, depth)) {
                return false;
            }
            int order = comparison(tape.next());
            if (order == NONE) {
                return tape.wrong();
            }
            tape.skip();
            return readLevel(tape, SUM, depth) && write(order, 0);
        }

        private static int comparison(int sign) {
            switch (sign) {
                case '<': return LESS;
                case '>': return MORE;
                case '=': return SAME;
                default: return NONE;
            }
        }

        private boolean readFactor(Tape tape, int depth) {
            if (tape.isDigit()) {
                return readNumber(tape);
            }
            int sign = tape.next();
            if (sign == '[') {
                if (depth >= BRACKETS) {
                    return tape.fail(TOO_DEEP, tape.place());
                }
                tape.skip();
                return readLevel(tape, SUM, depth + 1) && tape.take(']');
            }
            for (int name = 0; name < NAMES.length; name++) {
                if (NAMES[name] == sign) {
                    tape.skip();
                    return write(NAME, name);
                }
            }
            return tape.wrong();
        }

        private boolean readNumber(Tape tape) {
            int number = 0;
            for (int i = 0; i < DIGITS && tape.isDigit(); i++) {
                number = 10 * number + tape.digit();
            }
            return tape.isDigit() ? tape.fail(TOO_HIGH, tape.place()) : write(NUMBER, number);
        }

        /** True always: each order comes from a byte of its own, so there is room. */
        private boolean write(int order, int of) {
            if (freshSize < TEXT) {
                freshOrders[freshSize] = of << 4 | order;
                freshSize++;
            }
            return true;
        }

        /** What the first clause of the letter says whose C holds, within its bounds; 0 if there is none. */
        int reckon(int letter, int t, int u, int p, int spot) {
            named[0] = t;
            named[1] = t / 4;
            named[2] = u;
            named[3] = p;
            named[4] = spot % 10;
            named[5] = spot / 10;
            for (int clause = 0; clause < size; clause++) {
                int row = PARTS * clause;
                if (clauses[row] == letter && run(clauses[row + 2], clauses[row + 3]) != 0) {
                    int value = run(clauses[row + 1], clauses[row + 2]);
                    return Math.max(0, Math.min(mostOf(letter), value));
                }
            }
            return 0;
        }

        /** What the orders leave on the stack; 0 as soon as one is REFUSED, which is no for a C. Leaps go ahead only, so it ends. */
        private int run(int from, int to) {
            int top = -1;
            for (int i = from; i < to; i++) {
                int order = orders[i] & 15;
                int of = orders[i] >> 4;
                if (order == NUMBER || order == NAME) {
                    top++;
                    stack[top] = order == NUMBER ? of : named[of];
                } else if (order == NOT) {
                    stack[top] = 1 - stack[top];
                } else if (order == IF_SO || order == IF_NOT) {
                    if ((stack[top] != 0) == (order == IF_SO)) {
                        i = of > i ? of - 1 : i;
                    } else {
                        top--;
                    }
                } else {
                    top--;
                    int left = stack[top];
                    int right = stack[top + 1];
                    if (right == 0 && (order == THROUGH || order == REST)) {
                        return 0;
                    }
                    switch (order) {
                        case LESS: stack[top] = left < right ? 1 : 0; break;
                        case MORE: stack[top] = left > right ? 1 : 0; break;
                        case SAME: stack[top] = left == right ? 1 : 0; break;
                        case PLUS: stack[top] = left + right; break;
                        case MINUS: stack[top] = left - right; break;
                        case TIMES: stack[top] = left * right; break;
                        case THROUGH: stack[top] = left / right; break;
                        default: stack[top] = left % right; break;
                    }
                }
            }
            return stack[0];
        }
    }

    /** What plans see and hear and where shadows fall; what the law was asked once is kept till something changes. */
    private static final class Senses {
        private static final int UNASKED = -1;

        private final Town town;
        private final People people;
        private final Law law;
        private final int[] views = new int[PLANS * MINUTES];
        private final int[] calls = new int[PLANS * MINUTES];
        private final int[] seen = new int[PLANS * MINUTES];
        private final int[] casts = new int[2 * MINUTES];

        Senses(Town town, People people, Law law) {
            this.town = town;
            this.people = people;
            this.law = law;
            forget();
        }

        void forget() {
            Arrays.fill(views, UNASKED);
            Arrays.fill(calls, UNASKED);
            Arrays.fill(seen, UNASKED);
            Arrays.fill(casts, UNASKED);
        }

        private int view(int plan, int t) {
            int cell = MINUTES * plan + t;
            if (views[cell] == UNASKED) {
                views[cell] = law.reckon('v', t, 0, plan / VERSIONS, people.spot(plan, t));
            }
            return views[cell];
        }

        private int call(int plan, int t) {
            int cell = MINUTES * plan + t;
            if (calls[cell] == UNASKED) {
                calls[cell] = law.reckon('h', t, 0, plan / VERSIONS, people.spot(plan, t));
            }
            return calls[cell];
        }

        /** Ten times the way of the shadow and its length. */
        int cast(int t, int u) {
            int cell = MINUTES * u + t;
            if (casts[cell] == UNASKED) {
                casts[cell] = 10 * law.reckon('a', t, u, 0, 0) + law.reckon('l', t, u, 0, 0);
            }
            return casts[cell];
        }

        /** The minutes with this cast: how many (what 0), the first (1), the last (2). */
        int casts(int cast, int u, int what) {
            int many = 0;
            int first = NOTHING;
            int last = NOTHING;
            for (int t = 0; t < MINUTES; t++) {
                if (cast(t, u) == cast) {
                    many++;
                    first = first == NOTHING ? t : first;
                    last = t;
                }
            }
            if (what == 0) {
                return many;
            }
            return what == 1 ? first : last;
        }

        boolean canSee(int plan, int t, int spot) {
            return town.away(people.spot(plan, t), spot) <= view(plan, t);
        }

        boolean canHear(int listener, int caller, int t) {
            int here = people.spot(listener, t);
            int there = people.spot(caller, t);
            int apart = Math.abs(here % 10 - there % 10) + Math.abs(here / 10 - there / 10);
            return apart <= call(caller, t);
        }

        /** The plans of others that a plan sees, version v of person p as bit 10 v + p. */
        int seenPlans(int plan, int t) {
            int cell = MINUTES * plan + t;
            if (seen[cell] == UNASKED) {
                int far = view(plan, t);
                int from = people.spot(plan, t);
                int bits = 0;
                for (int other = 0; other < PLANS; other++) {
                    boolean another = other / VERSIONS != plan / VERSIONS && people.has(other);
                    if (another && town.away(from, people.spot(other, t)) <= far) {
                        bits |= 1 << PEOPLE * (other % VERSIONS) + other / VERSIONS;
                    }
                }
                seen[cell] = bits;
            }
            return seen[cell];
        }

        int seenToday(int p, int t) {
            int plans = seenPlans(people.planToday(p), t);
            int bits = 0;
            for (int q = 0; q < PEOPLE; q++) {
                bits |= (plans >> PEOPLE * people.version(q) + q & 1) << q;
            }
            return bits;
        }

        int heardToday(int p, int t) {
            int bits = 0;
            for (int q = 0; q < PEOPLE; q++) {
                if (q != p && people.isTold(q) && canHear(people.planToday(p), people.planToday(q), t)) {
                    bits |= 1 << q;
                }
            }
            return bits;
        }

        /** Who knows a word at the end of a minute that these knew at its start. */
        int passedOn(int knowing, int t) {
            int bits = knowing;
            for (int p = 0; p < PEOPLE; p++) {
                if (people.isTold(p) && (heardToday(p, t) & knowing) != 0) {
                    bits |= 1 << p;
                }
            }
            return bits;
        }

        private boolean isWatched(int spot, int t) {
            for (int p = 0; p < PEOPLE; p++) {
                if (people.isTold(p) && canSee(people.planToday(p), t, spot)) {
                    return true;
                }
            }
            return false;
        }

        /** The spots that nobody sees from a minute to another one: how many (what 0), the lowest (1). */
        int hidden(int from, int to, int what) {
            int many = 0;
            int lowest = NOTHING;
            for (int spot = SPOTS - 1; spot >= 0; spot--) {
                boolean watched = town.isWall(spot);
                for (int t = from; t <= to && !watched; t++) {
                    watched = isWatched(spot, t);
                }
                if (!watched) {
                    many++;
                    lowest = spot;
                }
            }
            return what == 0 ? many : lowest;
        }

        int longestUnwatched(int spot) {
            int longest = 0;
            int stretch = 0;
            for (int t = 0; t < MINUTES; t++) {
                stretch = isWatched(spot, t) ? 0 : stretch + 1;
                longest = Math.max(longest, stretch);
            }
            return longest;
        }
    }

    /** What witnesses tell, a row of numbers for each report. */
    private static final class Reports {
        private static final int TEXT = 200;
        private static final int MOST = 40;
        private static final int PARTS = 6;
        private static final int WITNESS = 0;
        private static final int MINUTE = 1;
        private static final int SLIP = 2;
        private static final int LETTER = 3;
        private static final int OTHER = 4;
        private static final int SPOT = 5;

        private final People people;
        private final Senses senses;
        private final int[] rows = new int[PARTS * MOST];
        private final int[] freshRows = new int[PARTS * MOST];
        private final int[] keptRows = new int[PARTS * MOST];
        private int size;
        private int freshSize;
        private int keptSize;

        Reports(People people, Senses senses) {
            this.people = people;
            this.senses = senses;
        }

        int size() {
            return size;
        }

        boolean has(int i) {
            return i >= 0 && i < size;
        }

        int part(int i, int part) {
            return rows[PARTS * i + part];
        }

        int witness(int i) {
            return part(i, WITNESS);
        }

        int other(int i) {
            return part(i, OTHER);
        }

        boolean isOfShadow(int i) {
            return has(i) && part(i, LETTER) == 'f';
        }

        void store() {
            System.arraycopy(rows, 0, keptRows, 0, PARTS * MOST);
            keptSize = size;
        }

        void restore() {
            System.arraycopy(keptRows, 0, rows, 0, PARTS * MOST);
            size = keptSize;
        }

        void takeOut(int i) {
            size--;
            System.arraycopy(rows, PARTS * (i + 1), rows, PARTS * i, PARTS * (size - i));
        }

        int takeOutAllOf(int p) {
            int before = size;
            for (int i = before - 1; i >= 0; i--) {
                if (witness(i) == p) {
                    takeOut(i);
                }
            }
            return before - size;
        }

        /** None of the text comes if there is a fault in it, so the rows are read behind a copy of those there are. */
        boolean read(Tape tape) {
            System.arraycopy(rows, 0, freshRows, 0, PARTS * MOST);
            freshSize = size;
            for (int line = 0; line < TEXT; line++) {
                if (!readReport(tape)) {
                    return false;
                }
                freshSize++;
                if (tape.atEnd()) {
                    System.arraycopy(freshRows, 0, rows, 0, PARTS * MOST);
                    size = freshSize;
                    return true;
                }
                if (!tape.take(';')) {
                    return false;
                }
            }
            return false;
        }

        private boolean readReport(Tape tape) {
            int place = tape.place();
            int witness = readLetter(tape);
            if (witness < 0) {
                return false;
            }
            if (freshSize >= MOST) {
                return tape.fail(ONE_TOO_MANY, place);
            }
            if (!people.isTold(witness)) {
                return tape.fail(UNTOLD, place);
            }
            int minute = tape.minute();
            if (minute < 0) {
                return false;
            }
            int slip = 0;
            if (tape.next() == '~') {
                tape.skip();
                slip = tape.digit();
            }
            if (slip < 0) {
                return false;
            }
            freshRows[PARTS * freshSize + WITNESS] = witness;
            freshRows[PARTS * freshSize + MINUTE] = minute;
            freshRows[PARTS * freshSize + SLIP] = slip;
            return readTelling(tape, witness);
        }

        private boolean readTelling(Tape tape, int witness) {
            int letter = tape.next();
            boolean ofOther = letter == 's' || letter == 'o' || letter == 'h' || letter == 'w';
            boolean ofSpot = letter == 'i' || letter == 'w';
            if (!ofOther && !ofSpot && letter != 'f') {
                return tape.wrong();
            }
            tape.skip();
            int other = ofOther ? readOther(tape, witness) : NOTHING;
            if (other == NONE) {
                return false;
            }
            int spot = NOTHING;
            if (ofSpot) {
                spot = tape.spot();
            } else if (letter == 'f') {
                spot = readCast(tape);
            }
            if (spot == NONE) {
                return false;
            }
            freshRows[PARTS * freshSize + LETTER] = letter;
            freshRows[PARTS * freshSize + OTHER] = other;
            freshRows[PARTS * freshSize + SPOT] = spot;
            return true;
        }

        private static int readLetter(Tape tape) {
            int letter = tape.next();
            if (letter < 'a' || letter > 'j') {
                tape.wrong();
                return NONE;
            }
            tape.skip();
            return letter - 'a';
        }

        private int readOther(Tape tape, int witness) {
            int place = tape.place();
            int other = readLetter(tape);
            if (other < 0) {
                return NONE;
            }
            if (!people.isTold(other)) {
                tape.fail(UNTOLD, place);
                return NONE;
            }
            if (other == witness) {
                tape.fail(WITNESS_AGAIN, place);
                return NONE;
            }
            return other;
        }

        /** Ten times the way and the length. */
        private static int readCast(Tape tape) {
            int place = tape.place();
            int way = tape.digit();
            if (way > 7) {
                tape.fail(NO_SUCH_GROUND, place);
                return NONE;
            }
            int length = way < 0 ? NONE : tape.digit();
            return length < 0 ? NONE : 10 * way + length;
        }

        /** By a plan of the witness, one of the other person (any one, if the report tells of none) and a sun. */
        boolean isSo(int i, int plan, int otherPlan, int u) {
            int spot = part(i, SPOT);
            int to = Math.min(MINUTES - 1, part(i, MINUTE) + part(i, SLIP));
            boolean so = false;
            for (int t = Math.max(0, part(i, MINUTE) - part(i, SLIP)); t <= to && !so; t++) {
                switch (part(i, LETTER)) {
                    case 's': so = senses.canSee(plan, t, people.spot(otherPlan, t)); break;
                    case 'o': so = !senses.canSee(plan, t, people.spot(otherPlan, t)); break;
                    case 'h': so = senses.canHear(plan, otherPlan, t); break;
                    case 'i': so = people.spot(plan, t) == spot; break;
                    case 'w': so = people.spot(otherPlan, t) == spot; break;
                    case 'f': so = senses.cast(t, u) == spot; break;
                    default: break;
                }
            }
            return so;
        }

        boolean isSoToday(int i) {
            int other = Math.max(0, other(i));
            return isSo(i, people.planToday(witness(i)), people.planToday(other), people.sunToday());
        }

        int soToday() {
            int many = 0;
            for (int i = 0; i < size; i++) {
                many += isSoToday(i) ? 1 : 0;
            }
            return many;
        }

        int firstNotSoToday() {
            for (int i = 0; i < size; i++) {
                if (!isSoToday(i)) {
                    return i;
                }
            }
            return NOTHING;
        }

        /** The suns by which a report of the shadow may be, as bits: a shadow does not ask for plans. */
        int sunsFor(int i) {
            return (isSo(i, 0, 0, 0) ? 1 : 0) | (isSo(i, 0, 0, 1) ? 2 : 0);
        }

        int shadowsBy(int u) {
            int many = 0;
            for (int i = 0; i < size; i++) {
                many += isOfShadow(i) ? sunsFor(i) >> u & 1 : 0;
            }
            return many;
        }
    }

    /** All days that there can be, which reports hold in each, and the best of them. */
    private static final class Days {
        private static final int MOST = 1458;
        private static final int PAIRS = VERSIONS * VERSIONS;
        private static final int WORDS = (MOST + 63) / 64;

        private final People people;
        private final Reports reports;
        /** Day 2 k and 2 k + 1 have row k: version v of person p is bit 10 v + p. */
        private final int[] rows = new int[MOST / 2];
        private final boolean[] so = new boolean[Reports.MOST * PAIRS];
        private final long[] held = new long[MOST];
        /** For each report the days in which it holds, as bits. */
        private final long[] daysOf = new long[Reports.MOST * WORDS];
        private int size;
        private int most;
        private int first;
        private int alike;
        private final int[] leastClash = new int[3];
        private int clashing;

        Days(People people, Reports reports) {
            this.people = people;
            this.reports = reports;
        }

        int size() {
            return size;
        }

        int most() {
            return most;
        }

        int alike() {
            return alike;
        }

        int bestSun() {
            return first % 2;
        }

        int bestVersion(int p) {
            return versionIn(rows[first / 2], p);
        }

        long notHeldInBest() {
            return (1L << reports.size()) - 1 & ~held[first];
        }

        int row(int k) {
            return rows[k];
        }

        boolean isAmongBest(int day) {
            return Long.bitCount(held[day]) == most;
        }

        private static int versionIn(int row, int p) {
            if ((row >> p & 1) == 1) {
                return 0;
            }
            return (row >> PEOPLE + p & 1) == 1 ? 1 : 2;
        }

        /** False: there are too many days. */
        boolean judge() {
            if (!layRows()) {
                return false;
            }
            for (int i = 0; i < reports.size(); i++) {
                boolean ofShadow = reports.isOfShadow(i);
                boolean alone = reports.other(i) < 0;
                int plan = VERSIONS * reports.witness(i);
                int other = VERSIONS * Math.max(0, reports.other(i));
                for (int pair = 0; pair < PAIRS; pair++) {
                    int v = pair / VERSIONS;
                    int w = pair % VERSIONS;
                    boolean there = ofShadow || (people.has(plan + v) && (alone || people.has(other + w)));
                    so[PAIRS * i + pair] = there && reports.isSo(i, plan + v, other + w, w % 2);
                }
            }
            rate();
            return true;
        }

        /** The rows of versions, of which the last person's change fastest. */
        private boolean layRows() {
            int many = 1;
            for (int p = 0; p < PEOPLE; p++) {
                many *= people.isTold(p) ? Integer.bitCount(people.versionBits(p)) : 1;
            }
            if (many > rows.length) {
                return false;
            }
            size = 2 * many;
            Arrays.fill(rows, 0, many, 0);
            int stretch = many;
            for (int p = 0; p < PEOPLE; p++) {
                if (people.isTold(p)) {
                    stretch /= Math.max(1, Integer.bitCount(people.versionBits(p)));
                    layPerson(p, Math.max(1, stretch), many);
                }
            }
            return true;
        }

        /** A version stays for a stretch of rows, then the next that there is comes. */
        private void layPerson(int p, int stretch, int many) {
            int v = 0;
            for (int k = 0; k < many; k++) {
                if (k > 0 && k % stretch == 0) {
                    v = nextVersion(p, v);
                }
                rows[k] |= 1 << PEOPLE * v + p;
            }
        }

        /** Behind the last one the first, which all told people have. */
        private int nextVersion(int p, int v) {
            for (int next = v + 1; next < VERSIONS; next++) {
                if (people.has(VERSIONS * p + next)) {
                    return next;
                }
            }
            return 0;
        }

        private void rate() {
            Arrays.fill(daysOf, 0L);
            most = -1;
            for (int day = 0; day < size; day++) {
                held[day] = heldIn(day);
                int many = Long.bitCount(held[day]);
                if (many > most) {
                    most = many;
                    first = day;
                    alike = 0;
                }
                alike += many == most ? 1 : 0;
            }
        }

        private long heldIn(int day) {
            int row = rows[day / 2];
            long bits = 0;
            for (int i = 0; i < reports.size(); i++) {
                int pair = day % 2;
                if (!reports.isOfShadow(i)) {
                    pair = VERSIONS * versionIn(row, reports.witness(i)) + otherVersion(row, i);
                }
                if (so[PAIRS * i + pair]) {
                    bits |= 1L << i;
                    daysOf[WORDS * i + day / 64] |= 1L << day % 64;
                }
            }
            return bits;
        }

        private int otherVersion(int row, int i) {
            return reports.other(i) < 0 ? 0 : versionIn(row, reports.other(i));
        }

        /** What 0: how many reports quarrel; 1 to 3: those of the least row; 4: how many such rows. */
        int clashes(int what) {
            for (int many = 1; many <= 3; many++) {
                countClashes(many);
                if (clashing > 0) {
                    if (what == 0 || what == 4) {
                        return what == 0 ? many : clashing;
                    }
                    return what <= many ? leastClash[what - 1] : NOTHING;
                }
            }
            return what == 4 ? 0 : NOTHING;
        }

        /** Of one or two reports the last is looked at again in place of a further one. */
        private void countClashes(int many) {
            int n = reports.size();
            clashing = 0;
            for (int i = 0; i < n; i++) {
                for (int j = many > 1 ? i + 1 : i; j < (many > 1 ? n : i + 1); j++) {
                    for (int k = many > 2 ? j + 1 : j; k < (many > 2 ? n : j + 1); k++) {
                        if (neverTogether(i, j, k)) {
                            noteClash(i, j, k);
                        }
                    }
                }
            }
        }

        private void noteClash(int i, int j, int k) {
            if (clashing == 0) {
                leastClash[0] = i;
                leastClash[1] = j;
                leastClash[2] = k;
            }
            clashing++;
        }

        private boolean neverTogether(int i, int j, int k) {
            for (int word = 0; word < WORDS; word++) {
                if ((daysOf[WORDS * i + word] & daysOf[WORDS * j + word] & daysOf[WORDS * k + word]) != 0) {
                    return false;
                }
            }
            return true;
        }
    }

    /** What to ask next, so that the best days are told from one another. */
    private static final class Questions {
        private final People people;
        private final Senses senses;
        private final Days days;
        /** The rows of versions that are left, and in how many of their two days each. */
        private final int[] rows = new int[Days.MOST / 2];
        private final int[] weights = new int[Days.MOST / 2];
        private final int[] tally = new int[1 << PEOPLE];
        /** The rows that the tally has. */
        private int counted;
        private int size;
        private int left;
        private int who;
        private int when;
        private int alike;

        Questions(People people, Senses senses, Days days) {
            this.people = people;
            this.senses = senses;
            this.days = days;
        }

        /** Of the first question what 0: who, 1: when, 2: days with one answer, 3: days there were. */
        int first(int what) {
            gather();
            pick();
            switch (what) {
                case 0: return who;
                case 1: return when;
                case 2: return alike;
                default: return left;
            }
        }

        /** What 0: how many questions, 1: how many days are left behind them. */
        int all(int what) {
            gather();
            pick();
            int asked = 0;
            while (left > 1 && alike < left && asked < Days.MOST) {
                keepMost();
                asked++;
                pick();
            }
            return what == 0 ? asked : left;
        }

        private void gather() {
            size = 0;
            left = 0;
            for (int k = 0; k < days.size() / 2; k++) {
                int weight = (days.isAmongBest(2 * k) ? 1 : 0) + (days.isAmongBest(2 * k + 1) ? 1 : 0);
                if (weight > 0) {
                    rows[size] = days.row(k);
                    weights[size] = weight;
                    size++;
                    left += weight;
                }
            }
        }

        /** With nobody told there is no question, and all days stay alike. */
        private void pick() {
            who = NOTHING;
            when = NOTHING;
            alike = left + 1;
            for (int t = 0; t < MINUTES; t++) {
                for (int p = 0; p < PEOPLE; p++) {
                    if (!people.isTold(p)) {
                        continue;
                    }
                    int many = tallyUp(p, t, alike);
                    wipeTally(p, t);
                    if (many < alike) {
                        alike = many;
                        who = p;
                        when = t;
                    }
                }
            }
            alike = Math.min(alike, left);
        }

        /** The most days with one answer; counted no further than the bound, which is too many already. */
        private int tallyUp(int p, int t, int bound) {
            int many = 0;
            counted = 0;
            for (int k = 0; k < size && many < bound; k++) {
                int answer = answerOf(senses.seenPlans(VERSIONS * p + Days.versionIn(rows[k], p), t) & rows[k]);
                tally[answer] += weights[k];
                many = Math.max(many, tally[answer]);
                counted++;
            }
            return many;
        }

        /** Answer by answer, as the whole tally is longer than most rows of days. */
        private void wipeTally(int p, int t) {
            for (int k = 0; k < counted; k++) {
                tally[answerOf(senses.seenPlans(VERSIONS * p + Days.versionIn(rows[k], p), t) & rows[k])] = 0;
            }
        }

        /** People in place of their versions. */
        private static int answerOf(int plans) {
            return (plans | plans >> PEOPLE | plans >> 2 * PEOPLE) & (1 << PEOPLE) - 1;
        }

        private void keepMost() {
            tallyUp(who, when, left + 1);
            int likely = 0;
            for (int answer = 0; answer < tally.length; answer++) {
                likely = tally[answer] > tally[likely] ? answer : likely;
            }
            left = tally[likely];
            wipeTally(who, when);
            int stay = 0;
            for (int k = 0; k < size; k++) {
                int plan = VERSIONS * who + Days.versionIn(rows[k], who);
                if (answerOf(senses.seenPlans(plan, when) & rows[k]) == likely) {
                    rows[stay] = rows[k];
                    weights[stay] = weights[k];
                    stay++;
                }
            }
            size = stay;
        }
    }

    /** How somebody can have gone over plain spots. */
    private static final class Ways {
        private static final int LONGEST = 20;
        /** More steps than any way needs. */
        private static final int NEVER = 1000;

        private final Town town;
        private final People people;
        /** How many ways lead from the first spot to each spot in each minute, and on to the last spot. */
        private final long[] ahead = new long[(LONGEST + 1) * SPOTS];
        private final long[] behind = new long[(LONGEST + 1) * SPOTS];
        private final int[] steps = new int[SPOTS];
        private final int[] queue = new int[SPOTS];
        private int from;
        private int to;
        private int start;
        private int length;

        Ways(Town town, People people) {
            this.town = town;
            this.people = people;
        }

        /** False: there are no such two sights. */
        boolean open(int one, int a, int other, int b) {
            if (!isMinute(a) || !isMinute(b) || b < a || b - a > LONGEST || !town.isPlain(one) || !town.isPlain(other)) {
                return false;
            }
            from = one;
            to = other;
            start = a;
            length = b - a;
            return true;
        }

        long all() {
            countAhead(NONE);
            return ahead[SPOTS * length + to];
        }

        long over(int spot, int m) {
            countAhead(NONE);
            countBehind();
            int cell = SPOTS * (m - start) + spot;
            return ahead[cell] * behind[cell];
        }

        int spotsIn(int m) {
            countAhead(NONE);
            countBehind();
            int many = 0;
            for (int cell = SPOTS * (m - start); cell < SPOTS * (m - start + 1); cell++) {
                many += ahead[cell] != 0 && behind[cell] != 0 ? 1 : 0;
            }
            return many;
        }

        /** The people without whom no way is left, as bits. */
        int sureToMeet() {
            int bits = 0;
            for (int p = 0; p < PEOPLE; p++) {
                if (people.isTold(p)) {
                    countAhead(p);
                    bits |= ahead[SPOTS * length + to] == 0 ? 1 << p : 0;
                }
            }
            return bits;
        }

        /** The ways on which a person is never met; all with NONE. */
        private void countAhead(int shunned) {
            Arrays.fill(ahead, 0L);
            ahead[from] = 1;
            for (int m = 0; m <= length; m++) {
                for (int spot = 0; m > 0 && spot < SPOTS; spot++) {
                    ahead[SPOTS * m + spot] = stepsInto(ahead, m - 1, spot);
                }
                if (shunned != NONE) {
                    ahead[SPOTS * m + people.spotToday(shunned, start + m)] = 0;
                }
            }
        }

        private void countBehind() {
            Arrays.fill(behind, 0L);
            behind[SPOTS * length + to] = 1;
            for (int m = length - 1; m >= 0; m--) {
                for (int spot = 0; spot < SPOTS; spot++) {
                    behind[SPOTS * m + spot] = stepsInto(behind, m + 1, spot);
                }
            }
        }

        /** A step can be gone either way, so one sum serves both directions. */
        private long stepsInto(long[] ways, int m, int spot) {
            if (!town.isPlain(spot)) {
                return 0;
            }
            long sum = ways[SPOTS * m + spot];
            for (int way = 0; way < 8; way += 2) {
                int next = town.next(spot, way);
                sum += next == NONE ? 0 : ways[SPOTS * m + next];
            }
            return sum;
        }

        /** What 0: the person with the fewest steps to the spot, 1: how many. */
        int nearest(int spot, int t, int what) {
            measure(spot);
            int who = NOTHING;
            int fewest = NEVER;
            for (int p = 0; p < PEOPLE; p++) {
                int far = people.isTold(p) ? stepsOf(people.spotToday(p, t)) : NEVER;
                if (far < fewest) {
                    fewest = far;
                    who = p;
                }
            }
            return what == 0 || who == NOTHING ? who : fewest;
        }

        private void measure(int spot) {
            Arrays.fill(steps, NEVER);
            steps[spot] = 0;
            queue[0] = spot;
            int queued = 1;
            for (int i = 0; i < queued && i < SPOTS; i++) {
                for (int way = 0; way < 8; way += 2) {
                    int next = town.next(queue[i], way);
                    if (town.isPlain(next) && steps[next] == NEVER) {
                        steps[next] = steps[queue[i]] + 1;
                        queue[queued] = next;
                        queued++;
                    }
                }
            }
        }

        /** Somebody may stand where the ground was plain once, and step off it. */
        private int stepsOf(int spot) {
            int fewest = steps[spot];
            for (int way = 0; way < 8; way += 2) {
                int next = town.next(spot, way);
                fewest = next == NONE ? fewest : Math.min(fewest, steps[next] + 1);
            }
            return Math.min(fewest, NEVER);
        }
    }

    /** The tram with its tickets, and the things that are carried. */
    private static final class Luggage {
        private static final int TEXT = 90;
        private static final int STOPS = 12;
        private static final int THINGS = 6;
        private static final int PARTS = 4;
        private static final int SPOT = 0;
        private static final int CARRIER = 1;
        private static final int FROM = 2;
        private static final int TO = 3;

        private final People people;
        private final int[] stopSpots = new int[STOPS];
        private final int[] stopMinutes = new int[STOPS];
        private final int[] freshSpots = new int[STOPS];
        private final int[] freshMinutes = new int[STOPS];
        private int stops;
        private final int[] boardedAt = new int[PEOPLE];
        /** The first ticket of each stop; behind the last stop, how many were sold. */
        private final int[] firstTickets = new int[STOPS + 1];
        private final int[] ticketsWith = new int[PEOPLE];
        private final int[] keptTickets = new int[PEOPLE];
        private final int[] things = new int[PARTS * THINGS];
        private final int[] keptThings = new int[PARTS * THINGS];

        Luggage(People people) {
            this.people = people;
            Arrays.fill(ticketsWith, NOTHING);
            Arrays.fill(things, NONE);
        }

        void store() {
            System.arraycopy(ticketsWith, 0, keptTickets, 0, PEOPLE);
            System.arraycopy(things, 0, keptThings, 0, PARTS * THINGS);
        }

        void restore() {
            System.arraycopy(keptTickets, 0, ticketsWith, 0, PEOPLE);
            System.arraycopy(keptThings, 0, things, 0, PARTS * THINGS);
        }

        int stops() {
            return stops;
        }

        boolean readStops(Tape tape) {
            for (int stop = 0; stop <= STOPS; stop++) {
                if (!tape.isDigit()) {
                    return tape.wrong();
                }
                if (stop == STOPS) {
                    return tape.fail(ONE_TOO_MANY, tape.place());
                }
                if (!readStop(tape, stop)) {
                    return false;
                }
                if (tape.atEnd()) {
                    stops = stop + 1;
                    System.arraycopy(freshSpots, 0, stopSpots, 0, stops);
                    System.arraycopy(freshMinutes, 0, stopMinutes, 0, stops);
                    return true;
                }
                if (!tape.take(',')) {
                    return false;
                }
            }
            return false;
        }

        private boolean readStop(Tape tape, int stop) {
            int spot = tape.spot();
            if (spot < 0 || !tape.take(':')) {
                return false;
            }
            int place = tape.place();
            int minute = tape.minute();
            if (minute < 0) {
                return false;
            }
            if (stop > 0 && minute <= freshMinutes[stop - 1]) {
                return tape.fail(NOT_ABOVE, place);
            }
            freshSpots[stop] = spot;
            freshMinutes[stop] = minute;
            return true;
        }

        /** Who comes aboard where in THE DAY as it is now. */
        void board() {
            Arrays.fill(boardedAt, NOTHING);
            int next = 0;
            for (int stop = 0; stop < stops; stop++) {
                firstTickets[stop] = next;
                for (int p = 0; p < PEOPLE; p++) {
                    boolean waits = people.isTold(p) && boardedAt[p] == NOTHING;
                    if (waits && people.spotToday(p, stopMinutes[stop]) == stopSpots[stop]) {
                        boardedAt[p] = stop;
                        next++;
                    }
                }
            }
            firstTickets[stops] = next;
        }

        int stopOf(int p) {
            return boardedAt[p];
        }

        int sold() {
            return firstTickets[stops];
        }

        int foundWith(int p) {
            return ticketsWith[p];
        }

        void findWith(int p, int ticket) {
            for (int q = 0; q < PEOPLE; q++) {
                ticketsWith[q] = ticketsWith[q] == ticket ? NOTHING : ticketsWith[q];
            }
            ticketsWith[p] = ticket == NONE ? NOTHING : ticket;
        }

        private boolean isOfStop(int ticket, int stop) {
            return stop >= 0 && ticket >= firstTickets[stop] && ticket < firstTickets[stop + 1];
        }

        /** Those of a stop with whom no ticket was found can have the stop's other ones in any order. */
        int rows() {
            for (int p = 0; p < PEOPLE; p++) {
                if (ticketsWith[p] != NOTHING && !isOfStop(ticketsWith[p], boardedAt[p])) {
                    return 0;
                }
            }
            int rows = 1;
            for (int stop = 0; stop < stops; stop++) {
                for (int k = Integer.bitCount(withoutTicket(stop)); k > 1; k--) {
                    rows *= k;
                }
            }
            return rows;
        }

        private int withoutTicket(int stop) {
            int bits = 0;
            for (int p = 0; p < PEOPLE; p++) {
                bits |= boardedAt[p] == stop && ticketsWith[p] == NOTHING ? 1 << p : 0;
            }
            return bits;
        }

        int missing() {
            int many = sold();
            for (int p = 0; p < PEOPLE; p++) {
                boolean countsHere = boardedAt[p] != NOTHING && ticketsWith[p] != NOTHING;
                many -= countsHere && ticketsWith[p] < sold() ? 1 : 0;
            }
            return many;
        }

        int holders(int ticket) {
            if (rows() == 0) {
                return 0;
            }
            for (int p = 0; p < PEOPLE; p++) {
                if (ticketsWith[p] == ticket) {
                    return 1 << p;
                }
            }
            for (int stop = 0; stop < stops; stop++) {
                if (isOfStop(ticket, stop)) {
                    return withoutTicket(stop);
                }
            }
            return 0;
        }

        static boolean isThing(int i) {
            return i >= 0 && i < THINGS;
        }

        boolean isLaid(int i) {
            return isThing(i) && things[PARTS * i + SPOT] != NONE;
        }

        int laidBits() {
            int bits = 0;
            for (int i = 0; i < THINGS; i++) {
                bits |= isLaid(i) ? 1 << i : 0;
            }
            return bits;
        }

        void lay(int i, int spot) {
            things[PARTS * i + SPOT] = spot;
            things[PARTS * i + CARRIER] = NONE;
        }

        void giveTo(int i, int p, int a, int b) {
            things[PARTS * i + CARRIER] = p;
            things[PARTS * i + FROM] = a;
            things[PARTS * i + TO] = b;
        }

        int placeOf(int i, int t) {
            int spot = things[PARTS * i + SPOT];
            int carrier = things[PARTS * i + CARRIER];
            int from = things[PARTS * i + FROM];
            if (carrier == NONE || t < from || people.spotToday(carrier, from) != spot) {
                return spot;
            }
            return people.spotToday(carrier, Math.min(t, things[PARTS * i + TO]));
        }
    }

    /** Halves that are put together to the most kisses. */
    private static final class Kisses {
        private static final int HALVES = 10;
        private static final int HOW_MANY = 20;
        private static final int ALONE = 10;

        private final int[] sides = new int[HALVES];
        private final int[] minutes = new int[HALVES];
        private final int[] spots = new int[HALVES];
        private final int[] partners = new int[HALVES];
        private int size;
        private int apart;

        /** False: a byte is out of bounds. */
        boolean load(Tape tape, int n, int minutesApart) {
            size = n;
            apart = minutesApart;
            boolean fine = true;
            for (int i = 0; i < n; i++) {
                sides[i] = tape.byteAt(3 * i);
                minutes[i] = tape.byteAt(3 * i + 1);
                spots[i] = tape.byteAt(3 * i + 2);
                fine = fine && (sides[i] == 0 || sides[i] == 1) && isMinute(minutes[i]) && isSpot(spots[i]);
            }
            return fine;
        }

        int answer(int what) {
            return what == HOW_MANY ? mostFrom(0, 0) : partnerOf(what);
        }

        private boolean fits(int i, int j) {
            return sides[i] != sides[j] && Math.abs(minutes[i] - minutes[j]) <= apart
                && Math.abs(spots[i] % 10 - spots[j] % 10) <= 1 && Math.abs(spots[i] / 10 - spots[j] / 10) <= 1;
        }

        /** The most kisses of the halves of side 0 from one on, without the used ones; at most eleven deep. */
        private int mostFrom(int i, int used) {
            if (i >= size) {
                return 0;
            }
            int most = mostFrom(i + 1, used);
            for (int j = 0; j < size && sides[i] == 0; j++) {
                if ((used >> j & 1) == 0 && fits(i, j)) {
                    most = Math.max(most, 1 + mostFrom(i + 1, used | 1 << j));
                }
            }
            return most;
        }

        /** Each half of side 0 takes the least place by which the most kisses can still be had. */
        private int partnerOf(int place) {
            Arrays.fill(partners, ALONE);
            int used = 0;
            for (int i = 0; i < size; i++) {
                int most = mostFrom(i, used);
                boolean paired = sides[i] != 0;
                for (int j = 0; j < size && !paired; j++) {
                    paired = (used >> j & 1) == 0 && fits(i, j) && 1 + mostFrom(i + 1, used | 1 << j) == most;
                    if (paired) {
                        used |= 1 << j;
                        partners[i] = j;
                        partners[j] = i;
                    }
                }
            }
            return partners[place];
        }
    }
}
