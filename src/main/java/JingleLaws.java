import java.util.Arrays;

/** The laws of a camp that hold as long as they are heard; see DOC.md for the promises, LANGUAGE.md for the bounds. */
public final class JingleLaws {
    public static final int NONE = -1000000, BAD = -1000001, STATE = -1000002, FULL = -1000003;

    private static final int FOUND = -1000010;
    private static final int FOUND_NULL = 1, FOUND_PLACE = 2, FOUND_KIND = 3, FOUND_SIZE = 4, FOUND_STORE = 5;
    private static final int FAULTY = -1000100;

    private static final int MOST_HANDS = 5, MOST_RULES = 5, HAND_SETS = 32;
    private static final int MOST_STRENGTH = 20, STRONG = 10;
    private static final int LEAST_LOUD = 10, MOST_LOUD = 60, MOST_LOSS = 9;
    private static final int ALL_THINGS = 63;
    private static final int MOST_HOURS_AHEAD = 60, MOST_HEARD = 12, LAST_HOUR = 999;
    private static final int MOST_SEED = 999999, DRAWN_BEAT = 9;

    private static final int RULE = 0, SONG = 1, GREAT = 2, WHIM = 3, LOST = 4, HOOP = 5;
    /** The KIND that each KIND is, too; a RULE is nothing else. */
    private static final int[] WIDER = {-1, RULE, SONG, SONG, RULE, LOST};

    private final Rows rows;
    private final Reader reader;
    private final Camp now;
    private final Camp[] images;
    private final Acts acts;
    private final Foretold foretold;
    private final Rota rota;
    private final Asks asks;
    private int latestFault;
    private int latestFinding;

    public JingleLaws() {
        rows = new Rows();
        reader = new Reader();
        now = new Camp();
        images = new Camp[] {new Camp(), new Camp()};
        acts = new Acts();
        foretold = new Foretold();
        rota = new Rota();
        asks = new Asks();
    }

    // ---- rows

    public int row(int row, int lane, int n) {
        if (noRow(row) || !within(lane, Rows.BYTES, Rows.INTS) || n > Rows.MOST_ITEMS) {
            return BAD;
        }
        if (n < 0) {
            return finding(FOUND_SIZE);
        }
        rows.make(row, lane, n);
        return unfound(n);
    }

    public int set(int row, int i, int v) {
        if (noRow(row)) {
            return BAD;
        }
        if (rows.isMissing(row)) {
            return finding(FOUND_NULL);
        }
        if (!rows.hasPlaces(row, i, 1)) {
            return finding(FOUND_PLACE);
        }
        return unfound(rows.put(row, i, v));
    }

    public int copy(int a, int i, int b, int j, int n) {
        if (noRow(a) || noRow(b)) {
            return BAD;
        }
        if (rows.isMissing(a) || rows.isMissing(b)) {
            return finding(FOUND_NULL);
        }
        if (rows.lane[a] != rows.lane[b]) {
            return finding(FOUND_STORE);
        }
        if (!rows.hasPlaces(a, i, n) || !rows.hasPlaces(b, j, n)) {
            return finding(FOUND_PLACE);
        }
        System.arraycopy(rows.items[a], i, rows.items[b], j, n);
        return unfound(n);
    }

    public int drop(int row) {
        if (noRow(row)) {
            return BAD;
        }
        if (rows.isMissing(row)) {
            return finding(FOUND_NULL);
        }
        return unfound(rows.lose(row));
    }

    // ---- what is told

    public int feed(int letter) {
        if (!within(letter, 0, 255)) {
            return BAD;
        }
        if (reader.length >= Reader.MOST_BYTES) {
            return FULL;
        }
        reader.tape[reader.length] = letter;
        reader.length++;
        return reader.length;
    }

    public int camp() {
        reader.readCamp();
        reader.length = 0;
        if (reader.faultFound != 0) {
            latestFault = reader.faultFound;
            return FAULTY - reader.at;
        }
        now.become(reader.draft);
        acts.forget();
        return now.ruleCount;
    }

    public int fault() {
        return latestFault;
    }

    public int undo() {
        if (acts.count < 1) {
            return STATE;
        }
        acts.takeBack(now);
        return acts.count;
    }

    // ---- what is done

    public int hours(int n) {
        if (noCamp()) {
            return STATE;
        }
        if (!within(n, 1, 24)) {
            return BAD;
        }
        if (now.hour + n > LAST_HOUR) {
            return FULL;
        }
        for (int i = 0; i < n; i++) {
            acts.keep(now);
            now.passHour();
        }
        return now.holding();
    }

    public int give(int rule, int beat) {
        if (noRule(rule) || !within(beat, 0, now.loud)) {
            return BAD;
        }
        acts.keep(now);
        int was = now.beat[rule];
        now.beat[rule] = beat;
        return was;
    }

    public int play(int hand, int rule) {
        if (noHand(hand) || rule != NONE && noRule(rule)) {
            return BAD;
        }
        acts.keep(now);
        int was = now.plays[hand];
        now.plays[hand] = rule;
        return was;
    }

    public int soup(int hand, int n) {
        if (noHand(hand) || !within(n, 1, MOST_STRENGTH)) {
            return BAD;
        }
        acts.keep(now);
        now.strength[hand] = Math.min(MOST_STRENGTH, now.strength[hand] + n);
        return now.strength[hand];
    }

    public int bars(int rule, int things) {
        if (noRule(rule) || !within(things, 0, ALL_THINGS)) {
            return BAD;
        }
        acts.keep(now);
        int was = now.bars[rule];
        now.bars[rule] = things;
        return was;
    }

    public int rule(int rule, int what) {
        if (noRule(rule)) {
            return BAD;
        }
        switch (what) {
            case 0:
                return now.beat[rule];
            case 1:
                return now.loss[rule];
            case 2:
                return now.bars[rule];
            case 3:
                now.tally();
                return now.players[rule];
            case 4:
                return isKind(now.kind[rule], LOST) ? now.keeper() : NONE;
            default:
                return BAD;
        }
    }

    public int hand(int hand, int what) {
        if (noHand(hand)) {
            return BAD;
        }
        switch (what) {
            case 0:
                return now.strength[hand];
            case 1:
                return now.plays[hand];
            case 2:
                now.tally();
                return now.played[hand];
            default:
                return BAD;
        }
    }

    public int stand(int what) {
        if (noCamp()) {
            return STATE;
        }
        switch (what) {
            case 0:
                return now.holding();
            case 1:
                return now.barring();
            case 2:
                return ALL_THINGS & ~now.barring();
            case 3:
                return now.allBeat();
            case 4:
                return now.loud;
            default:
                return BAD;
        }
    }

    // ---- foretold

    public int ahead(int rule, int n) {
        if (noRule(rule) || !within(n, 0, MOST_HOURS_AHEAD)) {
            return BAD;
        }
        return foretold.behind(now, n).beat[rule];
    }

    public int strong(int hand, int n) {
        if (noHand(hand) || !within(n, 0, MOST_HOURS_AHEAD)) {
            return BAD;
        }
        return foretold.behind(now, n).strength[hand];
    }

    public int barred(int n) {
        if (noCamp()) {
            return STATE;
        }
        if (!within(n, 0, MOST_HOURS_AHEAD)) {
            return BAD;
        }
        return foretold.behind(now, n).barring();
    }

    public int when(int rule) {
        if (noRule(rule)) {
            return BAD;
        }
        return foretold.firstFall(now, 1 << rule, 1);
    }

    public int first(int what) {
        if (noCamp()) {
            return STATE;
        }
        if (!within(what, 0, 1)) {
            return BAD;
        }
        return foretold.firstFall(now, now.holding(), what);
    }

    public int hands(int rule, int n, int what) {
        if (noRule(rule) || !within(n, 1, 30) || !within(what, 0, 1)) {
            return BAD;
        }
        return fewest(foretold.fewestHands(now, rule, n), what);
    }

    public int rota(int n, int hand) {
        if (noCamp()) {
            return STATE;
        }
        if (!within(n, 1, 12) || hand != -1 && noHand(hand)) {
            return BAD;
        }
        rota.find(now, n);
        return hand == -1 ? rota.bestHolding() : rota.best[hand];
    }

    public int cover(int things, int what) {
        if (noCamp()) {
            return STATE;
        }
        if (!within(things, 0, ALL_THINGS) || !within(what, 0, 1)) {
            return BAD;
        }
        return fewest(now.fewestBarring(things), what);
    }

    public int fall(int things) {
        if (noCamp()) {
            return STATE;
        }
        if (!within(things, 0, ALL_THINGS)) {
            return BAD;
        }
        return now.holdingOver(things);
    }

    public int byTurns(int rule, int n, int m) {
        if (noRule(rule) || !within(n, 0, Foretold.MOST_TURNS) || !within(m, 1, 20)) {
            return BAD;
        }
        return foretold.comesOfTurns(now, rule, n, m);
    }

    public int share(int hand, int n) {
        if (noHand(hand) || !within(n, 0, 999)) {
            return BAD;
        }
        return now.shareOf(hand, n);
    }

    public int who(int rule, int which, int row, int i, int n) {
        if (noRule(rule) || !within(which, 0, 3) || noRow(row) || !within(n, 1, MOST_HEARD)) {
            return BAD;
        }
        int missed = unheard(row, i, n);
        if (missed != 0) {
            return finding(missed);
        }
        foretold.hear(rows.items[row], i, n);
        switch (which) {
            case 0:
                return unfound(foretold.fittingKinds(now, rule));
            case 1:
                return unfound(foretold.fittingLosses(now, rule));
            default:
                return unfound(foretold.fittingBeats(now, rule, which == 2));
        }
    }

    public int felt(int hand, int rule, int row, int i, int n) {
        if (noHand(hand) || noRule(rule) || noRow(row) || !within(n, 1, MOST_HEARD)) {
            return BAD;
        }
        int missed = unheard(row, i, n);
        if (missed != 0) {
            return finding(missed);
        }
        foretold.hear(rows.items[row], i, n);
        return unfound(foretold.fittingStrengths(now, hand, rule));
    }

    public long sleep(int rule, int n, int p, int what) {
        if (noRule(rule) || !within(n, 0, MOST_HOURS_AHEAD) || !within(p, 0, 10) || !within(what, 0, 1)) {
            return BAD;
        }
        long cases = foretold.allCases(now);
        long holding = foretold.casesHolding(now, rule, n, p);
        long common = greatestCommon(cases, holding);
        if (common < 1) {
            return NONE;
        }
        return what == 0 ? holding / common : cases / common;
    }

    public int drawn(int n, int seed, int what) {
        if (noCamp()) {
            return STATE;
        }
        if (!within(n, 0, MOST_HOURS_AHEAD) || !within(seed, 1, MOST_SEED) || !within(what, 0, 1)) {
            return BAD;
        }
        Camp then = foretold.drawnNights(now, n, seed);
        return what == 0 ? then.holding() : then.allBeat();
    }

    public int image(int k) {
        if (!within(k, 0, images.length - 1)) {
            return BAD;
        }
        if (noCamp()) {
            return STATE;
        }
        images[k].become(now);
        return 1;
    }

    public int restore(int k) {
        if (!within(k, 0, images.length - 1)) {
            return BAD;
        }
        if (images[k].isNone()) {
            return STATE;
        }
        now.become(images[k]);
        acts.forget();
        return 1;
    }

    // ---- asked

    public int kind(int one) {
        return noRule(one) ? BAD : now.kind[one];
    }

    public int as(int one, int kind) {
        if (noRule(one) || !within(kind, RULE, HOOP)) {
            return BAD;
        }
        if (!isKind(now.kind[one], kind)) {
            return finding(FOUND_KIND);
        }
        return unfound(one);
    }

    public int ask(int one, int what) {
        if (noRule(one) || !within(what, 0, 1)) {
            return BAD;
        }
        asks.length = 0;
        return what == 0 ? asks.sizeOf(now, one) : asks.markOf(now, one);
    }

    public int trace(int i) {
        return within(i, 0, asks.length - 1) ? asks.left[i] : NONE;
    }

    public int count(int what) {
        switch (what) {
            case 0:
                return rows.howMany();
            case 1:
                return now.ruleCount;
            case 2:
                return now.handCount;
            case 3:
                return now.hour;
            case 4:
                return now.allBeat();
            case 5:
                return now.allStrength();
            case 6:
                return acts.count;
            case 7:
                return reader.length;
            default:
                return BAD;
        }
    }

    public int status() {
        return latestFinding;
    }

    private static boolean within(int v, int least, int most) {
        return v >= least && v <= most;
    }

    private static boolean isKind(int kind, int asked) {
        int k = kind;
        for (int step = 0; step < WIDER.length && within(k, 0, WIDER.length - 1); step++) {
            if (k == asked) {
                return true;
            }
            k = WIDER[k];
        }
        return false;
    }

    private static long greatestCommon(long a, long b) {
        long greater = a;
        long less = b;
        // Each two steps halve the greater one, so a long needs fewer than 128.
        for (int step = 0; step < 128 && less != 0; step++) {
            long rest = greater % less;
            greater = less;
            less = rest;
        }
        return greater;
    }

    /** Answers by a set that was found: how many are in it (0), or which (1). */
    private static int fewest(int set, int what) {
        if (set == NONE) {
            return NONE;
        }
        return what == 0 ? Integer.bitCount(set) : set;
    }

    private boolean noRow(int row) {
        return !within(row, 0, Rows.MOST_ROWS - 1);
    }

    private boolean noCamp() {
        return now.isNone();
    }

    private boolean noRule(int rule) {
        return !within(rule, 0, now.ruleCount - 1);
    }

    private boolean noHand(int hand) {
        return !within(hand, 0, now.handCount - 1);
    }

    /** The FINDING of a ROW that cannot be heard, 0 if it can. */
    private int unheard(int row, int i, int n) {
        if (rows.isMissing(row)) {
            return FOUND_NULL;
        }
        return rows.hasPlaces(row, i, n) ? 0 : FOUND_PLACE;
    }

    private int finding(int number) {
        latestFinding = number;
        return FOUND - number;
    }

    private int unfound(int answer) {
        latestFinding = 0;
        return answer;
    }

    /** The ROWS. Their ITEMS lie in lines that are made once, since nothing that is made is ever given back. */
    private static final class Rows {
        static final int MOST_ROWS = 8, MOST_ITEMS = 40;
        static final int BYTES = 0, SHORTS = 1, INTS = 2;
        private static final int GONE = -1;

        final int[][] items = new int[MOST_ROWS][MOST_ITEMS];
        final int[] lane = new int[MOST_ROWS];
        final int[] size = new int[MOST_ROWS];

        Rows() {
            Arrays.fill(size, GONE);
        }

        boolean isMissing(int row) {
            return size[row] == GONE;
        }

        /** Says whether n ITEMS from i on are there; size less n cannot wrap, as i and n could together. */
        boolean hasPlaces(int row, int i, int n) {
            return i >= 0 && n >= 0 && i <= size[row] - n;
        }

        void make(int row, int itsLane, int n) {
            lane[row] = itsLane;
            size[row] = n;
            Arrays.fill(items[row], 0);
        }

        int put(int row, int i, int v) {
            int kept = lane[row] == BYTES ? (byte) v : lane[row] == SHORTS ? (short) v : v;
            items[row][i] = kept;
            return kept;
        }

        int lose(int row) {
            int had = size[row];
            size[row] = GONE;
            return had;
        }

        int howMany() {
            int there = 0;
            for (int row = 0; row < MOST_ROWS; row++) {
                there += isMissing(row) ? 0 : 1;
            }
            return there;
        }
    }

    /** A CAMP as it stands; one without RULES is none. */
    private static final class Camp {
        int loud;
        int hour;
        int handCount;
        int ruleCount;
        final int[] strength = new int[MOST_HANDS];
        final int[] plays = new int[MOST_HANDS];
        final int[] kind = new int[MOST_RULES];
        final int[] beat = new int[MOST_RULES];
        final int[] loss = new int[MOST_RULES];
        final int[] bars = new int[MOST_RULES];

        // What tally() found: HANDS of each RULE, RULES of each HAND (bits), and what each RULE gains.
        final int[] players = new int[MOST_RULES];
        final int[] played = new int[MOST_HANDS];
        private final int[] gain = new int[MOST_RULES];

        boolean isNone() {
            return ruleCount < 1;
        }

        void clear() {
            loud = 0;
            hour = 0;
            handCount = 0;
            ruleCount = 0;
        }

        void become(Camp other) {
            loud = other.loud;
            hour = other.hour;
            handCount = other.handCount;
            ruleCount = other.ruleCount;
            System.arraycopy(other.strength, 0, strength, 0, MOST_HANDS);
            System.arraycopy(other.plays, 0, plays, 0, MOST_HANDS);
            System.arraycopy(other.kind, 0, kind, 0, MOST_RULES);
            System.arraycopy(other.beat, 0, beat, 0, MOST_RULES);
            System.arraycopy(other.loss, 0, loss, 0, MOST_RULES);
            System.arraycopy(other.bars, 0, bars, 0, MOST_RULES);
        }

        /** The HAND that has all RULES whose words are lost. */
        int keeper() {
            return handCount < 1 ? 0 : hour % handCount;
        }

        /** Finds out who plays what in this HOUR. */
        void tally() {
            Arrays.fill(players, 0);
            Arrays.fill(played, 0);
            Arrays.fill(gain, 0);
            for (int h = 0; h < handCount; h++) {
                int r = plays[h];
                if (within(r, 0, ruleCount - 1) && kind[r] < LOST) {
                    addPlayer(r, h);
                }
            }
            int keeper = keeper();
            for (int r = 0; r < ruleCount; r++) {
                if (kind[r] >= LOST) {
                    addPlayer(r, keeper);
                }
            }
        }

        private void addPlayer(int r, int h) {
            if (strength[h] > 0) {
                players[r] |= 1 << h;
                played[h] |= 1 << r;
                gain[r] += strength[h] >= STRONG ? 3 : 2;
            }
        }

        void passHours(int n) {
            for (int i = 0; i < n; i++) {
                passHour();
            }
        }

        void passHour() {
            tally();
            for (int r = 0; r < ruleCount; r++) {
                beat[r] = beatBehind(r);
            }
            for (int h = 0; h < handCount; h++) {
                strength[h] = strengthBehind(h);
            }
            hour++;
        }

        private int beatBehind(int r) {
            int least = kind[r] == HOOP && beat[r] > 0 ? 1 : 0;
            return Math.max(least, Math.min(loud, beat[r] + gain[r]) - lossBehind(r));
        }

        private int lossBehind(int r) {
            boolean isPlayed = players[r] != 0;
            switch (kind[r]) {
                case GREAT:
                    return loss[r] / 2;
                case WHIM:
                    return isPlayed ? loss[r] : 2 * loss[r];
                case LOST:
                case HOOP:
                    return isPlayed ? 0 : loss[r];
                default:
                    return loss[r];
            }
        }

        private int strengthBehind(int h) {
            if (played[h] == 0) {
                return Math.min(MOST_STRENGTH, strength[h] + 2);
            }
            return Math.max(0, strength[h] - Integer.bitCount(played[h]));
        }

        boolean holds(int r) {
            return beat[r] > 0;
        }

        int holding() {
            int set = 0;
            for (int r = 0; r < ruleCount; r++) {
                set |= holds(r) ? 1 << r : 0;
            }
            return set;
        }

        int holdingOver(int things) {
            int set = 0;
            for (int r = 0; r < ruleCount; r++) {
                set |= holds(r) && (bars[r] & things) != 0 ? 1 << r : 0;
            }
            return set;
        }

        int barring() {
            return barredBy(holding());
        }

        private int barredBy(int set) {
            int things = 0;
            for (int r = 0; r < ruleCount; r++) {
                things |= (set >> r & 1) != 0 ? bars[r] : 0;
            }
            return things;
        }

        /** The fewest RULES that HOLD and BAR all these THINGS (bits), the least of several; NONE. */
        int fewestBarring(int things) {
            int all = holding();
            int found = NONE;
            for (int set = 0; set <= all; set++) {
                boolean fits = (set & ~all) == 0 && (things & ~barredBy(set)) == 0;
                if (fits && (found == NONE || Integer.bitCount(set) < Integer.bitCount(found))) {
                    found = set;
                }
            }
            return found;
        }

        int allBeat() {
            int sum = 0;
            for (int r = 0; r < ruleCount; r++) {
                sum += beat[r];
            }
            return sum;
        }

        int allStrength() {
            int sum = 0;
            for (int h = 0; h < handCount; h++) {
                sum += strength[h];
            }
            return sum;
        }

        int shareOf(int hand, int n) {
            int lack = handCount * MOST_STRENGTH - allStrength();
            if (lack < 1 || strength[hand] >= MOST_STRENGTH) {
                return 0;
            }
            int over = n;
            int lackingAhead = 0;
            for (int h = 0; h < handCount; h++) {
                int lacks = MOST_STRENGTH - strength[h];
                over -= n * lacks / lack;
                lackingAhead += h < hand && lacks > 0 ? 1 : 0;
            }
            return n * (MOST_STRENGTH - strength[hand]) / lack + (lackingAhead < over ? 1 : 0);
        }
    }

    /** The ACTS that can be undone: how all was ahead of each, in a ring of lines that are made once. */
    private static final class Acts {
        private static final int MOST_KEPT = 24;
        private static final int LINE = 1 + 2 * MOST_RULES + 2 * MOST_HANDS;

        private final int[][] lines = new int[MOST_KEPT][LINE];
        private int next;
        int count;

        void forget() {
            next = 0;
            count = 0;
        }

        void keep(Camp camp) {
            int[] line = lines[next];
            line[0] = camp.hour;
            System.arraycopy(camp.beat, 0, line, 1, MOST_RULES);
            System.arraycopy(camp.bars, 0, line, 1 + MOST_RULES, MOST_RULES);
            System.arraycopy(camp.strength, 0, line, 1 + 2 * MOST_RULES, MOST_HANDS);
            System.arraycopy(camp.plays, 0, line, 1 + 2 * MOST_RULES + MOST_HANDS, MOST_HANDS);
            next = (next + 1) % MOST_KEPT;
            count = Math.min(MOST_KEPT, count + 1);
        }

        void takeBack(Camp camp) {
            if (count < 1) {
                return;
            }
            next = (next + MOST_KEPT - 1) % MOST_KEPT;
            count--;
            int[] line = lines[next];
            camp.hour = line[0];
            System.arraycopy(line, 1, camp.beat, 0, MOST_RULES);
            System.arraycopy(line, 1 + MOST_RULES, camp.bars, 0, MOST_RULES);
            System.arraycopy(line, 1 + 2 * MOST_RULES, camp.strength, 0, MOST_HANDS);
            System.arraycopy(line, 1 + 2 * MOST_RULES + MOST_HANDS, camp.plays, 0, MOST_HANDS);
        }
    }

    /** Reads the tape into a draft, so that a FAULT leaves the CAMP as it is. */
    private static final class Reader {
        static final int MOST_BYTES = 120;
        private static final int END = -1;
        private static final int FAULT_TOKEN = 1, FAULT_NUMBER = 2, FAULT_ROOM = 3;

        final int[] tape = new int[MOST_BYTES];
        int length;
        final Camp draft = new Camp();
        int at;
        int faultFound;

        void readCamp() {
            at = 0;
            faultFound = 0;
            draft.clear();
            readByte('f');
            draft.loud = readNumber(LEAST_LOUD, MOST_LOUD);
            readByte(';');
            // One more than there is room for is begun, since it has a FAULT of its own.
            for (int k = 0; k <= MOST_HANDS && faultFound == 0 && (k == 0 || next() == 'h'); k++) {
                readHand();
            }
            for (int k = 0; k <= MOST_RULES && faultFound == 0 && (k == 0 || next() != END); k++) {
                readRule();
            }
        }

        private void readHand() {
            if (next() == 'h' && draft.handCount >= MOST_HANDS) {
                faultFound = FAULT_ROOM;
                return;
            }
            readByte('h');
            int strength = readNumber(0, MOST_STRENGTH);
            readByte(';');
            if (faultFound == 0) {
                draft.strength[draft.handCount] = strength;
                draft.plays[draft.handCount] = NONE;
                draft.handCount++;
            }
        }

        private void readRule() {
            int kind = kindTold(next());
            if (kind == RULE || draft.ruleCount >= MOST_RULES) {
                faultFound = kind == RULE ? FAULT_TOKEN : FAULT_ROOM;
                return;
            }
            at++;
            int beat = readNumber(0, draft.loud);
            readByte(',');
            int loss = readNumber(1, MOST_LOSS);
            readByte(',');
            int bars = readNumber(0, ALL_THINGS);
            readByte(';');
            if (faultFound == 0) {
                draft.kind[draft.ruleCount] = kind;
                draft.beat[draft.ruleCount] = beat;
                draft.loss[draft.ruleCount] = loss;
                draft.bars[draft.ruleCount] = bars;
                draft.ruleCount++;
            }
        }

        /** The KIND that a SORT tells; RULE: it is no SORT. */
        private static int kindTold(int letter) {
            switch (letter) {
                case 's':
                    return SONG;
                case 'g':
                    return GREAT;
                case 'w':
                    return WHIM;
                case 'l':
                    return LOST;
                case 'o':
                    return HOOP;
                default:
                    return RULE;
            }
        }

        private int next() {
            return byteAt(at);
        }

        private int byteAt(int place) {
            return within(place, 0, length - 1) ? tape[place] : END;
        }

        private void readByte(int due) {
            if (faultFound != 0) {
                return;
            }
            if (next() == due) {
                at++;
            } else {
                faultFound = FAULT_TOKEN;
            }
        }

        private int readNumber(int least, int most) {
            if (faultFound != 0) {
                return 0;
            }
            int figures = 0;
            int number = 0;
            // Three figures are enough to see that it is no NUMBER.
            for (int k = 0; k < 3 && within(byteAt(at + k), '0', '9'); k++) {
                number = 10 * number + byteAt(at + k) - '0';
                figures++;
            }
            if (figures < 1 || figures > 2) {
                faultFound = FAULT_TOKEN;
            } else if (!within(number, least, most)) {
                faultFound = FAULT_NUMBER;
            } else {
                at += figures;
            }
            return number;
        }
    }

    /** What is FORETOLD, on copies of the CAMP that are made once. */
    private static final class Foretold {
        static final int MOST_TURNS = 4;
        private static final int DRAW_FACTOR = 16807, DRAW_DIVISOR = 2147483647;

        private final Camp guess = new Camp();
        private final Camp plan = new Camp();
        private final int[] heard = new int[MOST_HEARD];
        private int heardCount;

        Camp behind(Camp now, int n) {
            guess.become(now);
            guess.passHours(n);
            return guess;
        }

        /** Which RULE of a set does not HOLD first (0), or behind how many HOURS that is (1); NONE. */
        int firstFall(Camp now, int set, int what) {
            guess.become(now);
            for (int n = 0; n <= MOST_HOURS_AHEAD; n++) {
                int fallen = set & ~guess.holding();
                if (fallen != 0) {
                    return what == 0 ? Integer.numberOfTrailingZeros(fallen) : n;
                }
                guess.passHour();
            }
            return NONE;
        }

        /** The fewest HANDS (bits) by which a RULE HOLDS, the least of several; NONE. */
        int fewestHands(Camp now, int rule, int n) {
            int found = NONE;
            for (int set = 0; set < 1 << now.handCount; set++) {
                if (found == NONE || Integer.bitCount(set) < Integer.bitCount(found)) {
                    guess.become(now);
                    letPlay(guess, rule, set);
                    guess.passHours(n);
                    found = guess.holds(rule) ? set : found;
                }
            }
            return found;
        }

        private static void letPlay(Camp camp, int rule, int set) {
            for (int h = 0; h < camp.handCount; h++) {
                if ((set >> h & 1) != 0) {
                    camp.plays[h] = rule;
                } else if (camp.plays[h] == rule) {
                    camp.plays[h] = NONE;
                }
            }
        }

        int comesOfTurns(Camp now, int rule, int n, int m) {
            plan.become(now);
            return outcome(rule, 0, n, m);
        }

        /** What comes of the turns from the given one on, by what the plan says so far. */
        private int outcome(int rule, int turn, int n, int m) {
            if (turn >= n || turn >= MOST_TURNS) {
                guess.become(plan);
                guess.passHours(m);
                return guess.beat[rule];
            }
            boolean first = turn % 2 == 0;
            int found = outcome(rule, turn + 1, n, m);
            for (int h = first ? 0 : 1; h < plan.handCount; h += 2) {
                int was = plan.plays[h];
                plan.plays[h] = first ? rule : NONE;
                int other = outcome(rule, turn + 1, n, m);
                plan.plays[h] = was;
                found = first ? Math.max(found, other) : Math.min(found, other);
            }
            return found;
        }

        void hear(int[] items, int i, int n) {
            heardCount = Math.min(n, MOST_HEARD);
            System.arraycopy(items, i, heard, 0, heardCount);
        }

        /** Says whether the guess goes on as it was heard. */
        private boolean isSo(int rule) {
            for (int k = 0; k < heardCount; k++) {
                guess.passHour();
                if (guess.beat[rule] != heard[k]) {
                    return false;
                }
            }
            return true;
        }

        int fittingKinds(Camp now, int rule) {
            int set = 0;
            for (int kind = SONG; kind <= HOOP; kind++) {
                guess.become(now);
                guess.kind[rule] = kind;
                set |= isSo(rule) ? 1 << kind : 0;
            }
            return set;
        }

        int fittingLosses(Camp now, int rule) {
            int set = 0;
            for (int loss = 1; loss <= MOST_LOSS; loss++) {
                guess.become(now);
                guess.loss[rule] = loss;
                set |= isSo(rule) ? 1 << loss : 0;
            }
            return set;
        }

        /** How many BEATS fit, or the least that does; NONE. */
        int fittingBeats(Camp now, int rule, boolean howMany) {
            int fitting = 0;
            int least = NONE;
            for (int beat = 0; beat <= now.loud; beat++) {
                guess.become(now);
                guess.beat[rule] = beat;
                if (isSo(rule)) {
                    fitting++;
                    least = least == NONE ? beat : least;
                }
            }
            return howMany ? fitting : least;
        }

        int fittingStrengths(Camp now, int hand, int rule) {
            int set = 0;
            for (int strength = 0; strength <= MOST_STRENGTH; strength++) {
                guess.become(now);
                guess.strength[hand] = strength;
                set |= isSo(rule) ? 1 << strength : 0;
            }
            return set;
        }

        long allCases(Camp now) {
            long cases = 1;
            for (int h = 0; h < now.handCount; h++) {
                cases *= 10;
            }
            return cases;
        }

        long casesHolding(Camp now, int rule, int n, int p) {
            long sum = 0;
            for (int asleep = 0; asleep < 1 << now.handCount; asleep++) {
                long cases = 1;
                guess.become(now);
                for (int h = 0; h < now.handCount; h++) {
                    boolean sleeps = (asleep >> h & 1) != 0;
                    cases *= sleeps ? p : 10 - p;
                    guess.strength[h] = sleeps ? 0 : guess.strength[h];
                }
                if (cases > 0) {
                    guess.passHours(n);
                    sum += guess.holds(rule) ? cases : 0;
                }
            }
            return sum;
        }

        Camp drawnNights(Camp now, int n, int seed) {
            guess.become(now);
            long x = seed;
            for (int i = 0; i < n; i++) {
                x = x * DRAW_FACTOR % DRAW_DIVISOR;
                draw(x);
                guess.passHour();
            }
            return guess;
        }

        private void draw(long x) {
            if (guess.handCount < 1 || guess.ruleCount < 1) {
                return;
            }
            int hand = (int) (x % guess.handCount);
            int rule = (int) (x % guess.ruleCount);
            if (x % 3 == 0) {
                guess.plays[hand] = rule;
            } else if (x % 3 == 1) {
                guess.plays[hand] = NONE;
            }
            if (!guess.holds(rule) && x % 5 == 0) {
                guess.beat[rule] = DRAWN_BEAT;
            }
        }
    }

    /**
     * The ROTA. STRENGTH of a HAND goes by whether it plays a song, not by which, nor by what others do. So BEAT of a
     * song goes just by the set of HANDS that play it, and that of RULES whose words are lost by the set that plays
     * any song: these are worked out once, and a way's worth is put together from them. A HAND that plays a RULE whose
     * words are lost does as if it played none, which is the way ahead of that.
     */
    private static final class Rota {
        /** What one RULE that HOLDS is worth: more than all BEAT together. */
        private static final int HOLDING = 1000;

        private final Camp guess = new Camp();
        private final int[] songs = new int[MOST_RULES];
        private int songCount;
        private final int[][] songWorth = new int[MOST_RULES][HAND_SETS];
        private final int[] lostWorth = new int[HAND_SETS];
        /** By HANDS: the place among the songs of what it plays in the way at hand, -1 none. */
        private final int[] way = new int[MOST_HANDS];
        private final int[] sets = new int[MOST_RULES];
        private int bestWorth;
        final int[] best = new int[MOST_HANDS];

        int bestHolding() {
            return bestWorth / HOLDING;
        }

        void find(Camp now, int n) {
            listSongs(now);
            workOut(now, n);
            Arrays.fill(way, -1);
            bestWorth = -1;
            int ways = 1;
            for (int h = 0; h < now.handCount; h++) {
                ways *= songCount + 1;
            }
            for (int k = 0; k < ways; k++) {
                weighWay(now.handCount);
                nextWay(now.handCount);
            }
        }

        private void listSongs(Camp now) {
            songCount = 0;
            for (int r = 0; r < now.ruleCount; r++) {
                if (now.kind[r] < LOST) {
                    songs[songCount] = r;
                    songCount++;
                }
            }
        }

        private void workOut(Camp now, int n) {
            letPlayAlone(now, NONE, 0);
            guess.passHours(n);
            lostWorth[0] = worthOfLost();
            for (int s = 0; s < songCount; s++) {
                for (int set = 0; set < 1 << now.handCount; set++) {
                    letPlayAlone(now, songs[s], set);
                    guess.passHours(n);
                    songWorth[s][set] = worthOf(songs[s]);
                    lostWorth[set] = worthOfLost();
                }
            }
        }

        private void letPlayAlone(Camp now, int rule, int set) {
            guess.become(now);
            for (int h = 0; h < guess.handCount; h++) {
                guess.plays[h] = (set >> h & 1) != 0 ? rule : NONE;
            }
        }

        private int worthOf(int rule) {
            return guess.beat[rule] + (guess.holds(rule) ? HOLDING : 0);
        }

        private int worthOfLost() {
            int sum = 0;
            for (int r = 0; r < guess.ruleCount; r++) {
                sum += guess.kind[r] >= LOST ? worthOf(r) : 0;
            }
            return sum;
        }

        private void weighWay(int handCount) {
            Arrays.fill(sets, 0);
            int playing = 0;
            for (int h = 0; h < handCount; h++) {
                int s = way[h];
                if (s >= 0) {
                    sets[s] |= 1 << h;
                    playing |= 1 << h;
                }
            }
            int worth = lostWorth[playing];
            for (int s = 0; s < songCount; s++) {
                worth += songWorth[s][sets[s]];
            }
            if (worth > bestWorth) {
                bestWorth = worth;
                keepWay(handCount);
            }
        }

        private void keepWay(int handCount) {
            for (int h = 0; h < handCount; h++) {
                best[h] = way[h] < 0 ? NONE : songs[way[h]];
            }
        }

        /** Goes on to the way behind this one: the last HAND changes first. */
        private void nextWay(int handCount) {
            for (int h = handCount - 1; h >= 0; h--) {
                way[h]++;
                if (way[h] < songCount) {
                    return;
                }
                way[h] = -1;
            }
        }
    }

    /**
     * The ASKS and THE TRACE. A BODY that takes what another gives begins ahead of it, so that numbers are left from
     * the nearest KIND outwards. Songs ask MARK in SIZE, RULES whose words are lost SIZE in MARK: never in a ring.
     */
    private static final class Asks {
        private static final int MOST_LEFT = 16;

        final int[] left = new int[MOST_LEFT];
        int length;

        private void leave(int number) {
            if (length < MOST_LEFT) {
                left[length] = number;
                length++;
            }
        }

        int sizeOf(Camp camp, int rule) {
            return camp.kind[rule] < LOST ? songSize(camp, rule) : lostSize(camp, rule);
        }

        int markOf(Camp camp, int rule) {
            return camp.kind[rule] < LOST ? songMark(camp, rule) : lostMark(camp, rule);
        }

        private int songSize(Camp camp, int rule) {
            boolean great = camp.kind[rule] == GREAT;
            if (great) {
                leave(12);
            }
            leave(11);
            leave(10);
            int size = camp.loss[rule] + songMark(camp, rule);
            return great ? -size : size;
        }

        private int songMark(Camp camp, int rule) {
            boolean great = camp.kind[rule] == GREAT;
            boolean whim = camp.kind[rule] == WHIM;
            if (great) {
                leave(24);
            }
            if (whim) {
                leave(22);
            }
            leave(21);
            leave(20);
            int mark = rule + camp.beat[rule];
            return great ? 2 * mark : whim ? mark - 1000 : mark;
        }

        private int lostSize(Camp camp, int rule) {
            boolean hoop = camp.kind[rule] == HOOP;
            if (hoop) {
                leave(14);
            }
            leave(13);
            leave(10);
            int size = camp.loss[rule] - 100;
            return hoop ? 2 * size : size;
        }

        private int lostMark(Camp camp, int rule) {
            leave(23);
            leave(20);
            return rule - lostSize(camp, rule);
        }
    }
}
