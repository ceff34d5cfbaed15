import java.math.BigInteger;
import java.util.ArrayDeque;
import java.util.ArrayList;
import java.util.Arrays;
import java.util.List;

/** The document written a second time, slow and plain, with nothing shared with the class but the face. */
final class PlainModel {
    private static final int NONE = Checks.NONE, BAD = Checks.BAD, STATE = Checks.STATE, FULL = Checks.FULL;

    /** A CAMP whose parts are copied whole for each HOUR. */
    private static final class Night {
        int loud;
        int hour;
        List<Integer> strengths = new ArrayList<>();
        List<Integer> plays = new ArrayList<>();
        StringBuilder sorts = new StringBuilder();
        List<Integer> beats = new ArrayList<>();
        List<Integer> losses = new ArrayList<>();
        List<Integer> bars = new ArrayList<>();

        Night copied() {
            Night other = new Night();
            other.loud = loud;
            other.hour = hour;
            other.strengths.addAll(strengths);
            other.plays.addAll(plays);
            other.sorts.append(sorts);
            other.beats.addAll(beats);
            other.losses.addAll(losses);
            other.bars.addAll(bars);
            return other;
        }

        int rules() {
            return beats.size();
        }

        int hands() {
            return strengths.size();
        }

        boolean playedBy(int r, int h) {
            if (strengths.get(h) == 0) {
                return false;
            }
            if (sorts.charAt(r) == 'l' || sorts.charAt(r) == 'o') {
                return h == hour % hands();
            }
            return plays.get(h) == r;
        }

        Night later() {
            Night next = copied();
            for (int r = 0; r < rules(); r++) {
                int beat = beats.get(r);
                boolean held = beat > 0;
                boolean played = false;
                for (int h = 0; h < hands(); h++) {
                    if (playedBy(r, h)) {
                        played = true;
                        beat += strengths.get(h) < 10 ? 2 : 3;
                    }
                }
                if (beat > loud) {
                    beat = loud;
                }
                int loss = losses.get(r);
                char sort = sorts.charAt(r);
                if (sort == 's') {
                    beat -= loss;
                } else if (sort == 'g') {
                    beat -= loss / 2;
                } else if (sort == 'w') {
                    beat -= loss;
                    beat -= played ? 0 : loss;
                } else if (!played) {
                    beat -= loss;
                }
                if (beat < 0) {
                    beat = 0;
                }
                if (sort == 'o' && held && beat < 1) {
                    beat = 1;
                }
                next.beats.set(r, beat);
            }
            for (int h = 0; h < hands(); h++) {
                int tired = 0;
                for (int r = 0; r < rules(); r++) {
                    tired += playedBy(r, h) ? 1 : 0;
                }
                int s = strengths.get(h);
                next.strengths.set(h, tired == 0 ? (s > 18 ? 20 : s + 2) : (s < tired ? 0 : s - tired));
            }
            next.hour = hour + 1;
            return next;
        }

        Night later(int n) {
            Night at = this;
            for (int i = 0; i < n; i++) {
                at = at.later();
            }
            return at;
        }

        int holding() {
            int bits = 0;
            for (int r = 0; r < rules(); r++) {
                if (beats.get(r) > 0) {
                    bits += 1 << r;
                }
            }
            return bits;
        }

        int barred() {
            int bits = 0;
            for (int r = 0; r < rules(); r++) {
                if (beats.get(r) > 0) {
                    bits |= bars.get(r);
                }
            }
            return bits;
        }

        int allBeat() {
            return beats.stream().mapToInt(Integer::intValue).sum();
        }
    }

    /** Bodies as a tree of classes, so that the machine itself picks them. */
    private interface Body {
        PlainModel model();

        int one();

        private void leave(int number) {
            if (model().trace.size() < 16) {
                model().trace.add(number);
            }
        }

        default void left(int number) {
            leave(number);
        }

        default int size() {
            left(10);
            return model().now.losses.get(one());
        }

        default int mark() {
            left(20);
            return one();
        }
    }

    private static class Lent implements Body {
        private final PlainModel model;
        private final int one;

        Lent(PlainModel model, int one) {
            this.model = model;
            this.one = one;
        }

        @Override
        public PlainModel model() {
            return model;
        }

        @Override
        public int one() {
            return one;
        }
    }

    private static class Song extends Lent {
        Song(PlainModel model, int one) {
            super(model, one);
        }

        @Override
        public int size() {
            left(11);
            return super.size() + mark();
        }

        @Override
        public int mark() {
            left(21);
            return super.mark() + model().now.beats.get(one());
        }
    }

    private static final class Great extends Song {
        Great(PlainModel model, int one) {
            super(model, one);
        }

        @Override
        public int size() {
            left(12);
            return -super.size();
        }

        @Override
        public int mark() {
            left(24);
            return 2 * super.mark();
        }
    }

    private static final class Whim extends Song {
        Whim(PlainModel model, int one) {
            super(model, one);
        }

        @Override
        public int mark() {
            left(22);
            return super.mark() - 1000;
        }
    }

    private static class Lost extends Lent {
        Lost(PlainModel model, int one) {
            super(model, one);
        }

        @Override
        public int size() {
            left(13);
            return super.size() - 100;
        }

        @Override
        public int mark() {
            left(23);
            return super.mark() - size();
        }
    }

    private static final class Hoop extends Lost {
        Hoop(PlainModel model, int one) {
            super(model, one);
        }

        @Override
        public int size() {
            left(14);
            return 2 * super.size();
        }
    }

    private final Object[] rows = new Object[8];
    private final StringBuilder tape = new StringBuilder();
    private Night now;
    private final Night[] images = new Night[2];
    private final ArrayDeque<Night> acts = new ArrayDeque<>();
    private final List<Integer> trace = new ArrayList<>();
    private int faultNumber;
    private int statusNumber;

    private int found(int number) {
        statusNumber = number;
        return -1000010 - number;
    }

    private int fine(int answer) {
        statusNumber = 0;
        return answer;
    }

    private boolean isRule(int r) {
        return now != null && r >= 0 && r < now.rules();
    }

    private boolean isHand(int h) {
        return now != null && h >= 0 && h < now.hands();
    }

    private static int size(Object row) {
        return java.lang.reflect.Array.getLength(row);
    }

    public int row(int row, int lane, int n) {
        if (row < 0 || row > 7 || lane < 0 || lane > 2 || n > 40) {
            return BAD;
        }
        if (n < 0) {
            return found(4);
        }
        rows[row] = lane == 0 ? new byte[n] : lane == 1 ? new short[n] : new int[n];
        return fine(n);
    }

    public int set(int row, int i, int v) {
        if (row < 0 || row > 7) {
            return BAD;
        }
        try {
            if (rows[row] instanceof byte[] bytes) {
                bytes[i] = (byte) v;
                return fine(bytes[i]);
            }
            if (rows[row] instanceof short[] shorts) {
                shorts[i] = (short) v;
                return fine(shorts[i]);
            }
            if (rows[row] instanceof int[] ints) {
                ints[i] = v;
                return fine(ints[i]);
            }
            return found(1);
        } catch (ArrayIndexOutOfBoundsException e) {
            return found(2);
        }
    }

    /** As the machine's own copy finds it. */
    public int copy(int a, int i, int b, int j, int n) {
        if (a < 0 || a > 7 || b < 0 || b > 7) {
            return BAD;
        }
        try {
            System.arraycopy(rows[a], i, rows[b], j, n);
            return fine(n);
        } catch (NullPointerException e) {
            return found(1);
        } catch (ArrayStoreException e) {
            return found(5);
        } catch (IndexOutOfBoundsException e) {
            return found(2);
        }
    }

    public int drop(int row) {
        if (row < 0 || row > 7) {
            return BAD;
        }
        if (rows[row] == null) {
            return found(1);
        }
        int had = size(rows[row]);
        rows[row] = null;
        return fine(had);
    }

    public int feed(int letter) {
        if (letter < 0 || letter > 255) {
            return BAD;
        }
        if (tape.length() == 120) {
            return FULL;
        }
        tape.append((char) letter);
        return tape.length();
    }

    /** One pattern for each part, tried token by token. */
    public int camp() {
        String text = tape.toString();
        tape.setLength(0);
        Night night = new Night();
        int[] fault = read(text, night);
        if (fault != null) {
            faultNumber = fault[1];
            return -1000100 - fault[0];
        }
        now = night;
        acts.clear();
        return now.rules();
    }

    private static List<String> tokens(String text) {
        List<String> all = new ArrayList<>();
        java.util.regex.Matcher m = java.util.regex.Pattern.compile("[0-9]+|(?s:.)").matcher(text);
        while (m.find()) {
            all.add(m.group());
        }
        return all;
    }

    /** A FAULT's place and number, or null; by a table of what may stand where. */
    private static int[] read(String text, Night night) {
        int place = 0;
        String at = "f";
        List<Integer> numbers = new ArrayList<>();
        for (String token : tokens(text)) {
            int number = token.matches("[0-9]{1,2}") ? Integer.parseInt(token) : -1;
            int fault = 0;
            String next = "";
            switch (at) {
                case "f" -> {
                    fault = token.equals("f") ? 0 : 1;
                    next = "loud";
                }
                case "loud" -> {
                    fault = number < 0 ? 1 : number < 10 || number > 60 ? 2 : 0;
                    night.loud = number;
                    next = "loud;";
                }
                case "loud;" -> {
                    fault = token.equals(";") ? 0 : 1;
                    next = "h";
                }
                case "h" -> {
                    fault = token.equals("h") ? 0 : 1;
                    next = "strength";
                }
                case "strength" -> {
                    fault = number < 0 ? 1 : number > 20 ? 2 : 0;
                    night.strengths.add(number);
                    night.plays.add(NONE);
                    next = "strength;";
                }
                case "strength;" -> {
                    fault = token.equals(";") ? 0 : 1;
                    next = "h or rule";
                }
                case "h or rule", "rule or end" -> {
                    if (token.equals("h") && at.equals("h or rule")) {
                        fault = night.hands() == 5 ? 3 : 0;
                        next = "strength";
                    } else if (token.matches("[sgwlo]")) {
                        fault = night.rules() == 5 ? 3 : 0;
                        night.sorts.append(token);
                        next = "beat";
                    } else {
                        fault = 1;
                    }
                }
                case "beat" -> {
                    fault = number < 0 ? 1 : number > night.loud ? 2 : 0;
                    night.beats.add(number);
                    next = "beat,";
                }
                case "beat," -> {
                    fault = token.equals(",") ? 0 : 1;
                    next = "loss";
                }
                case "loss" -> {
                    fault = number < 0 ? 1 : number < 1 || number > 9 ? 2 : 0;
                    night.losses.add(number);
                    next = "loss,";
                }
                case "loss," -> {
                    fault = token.equals(",") ? 0 : 1;
                    next = "bars";
                }
                case "bars" -> {
                    fault = number < 0 ? 1 : number > 63 ? 2 : 0;
                    night.bars.add(number);
                    next = "bars;";
                }
                default -> {
                    fault = token.equals(";") ? 0 : 1;
                    next = "rule or end";
                }
            }
            if (fault != 0) {
                return new int[] {place, fault};
            }
            place += token.length();
            at = next;
        }
        return at.equals("rule or end") ? null : new int[] {place, 1};
    }

    public int fault() {
        return faultNumber;
    }

    private void act() {
        acts.push(now.copied());
        if (acts.size() > 24) {
            acts.removeLast();
        }
    }

    public int undo() {
        if (acts.isEmpty()) {
            return STATE;
        }
        now = acts.pop();
        return acts.size();
    }

    public int hours(int n) {
        if (now == null) {
            return STATE;
        }
        if (n < 1 || n > 24) {
            return BAD;
        }
        if (now.hour + n >= 1000) {
            return FULL;
        }
        for (int i = 0; i < n; i++) {
            act();
            now = now.later();
        }
        return now.holding();
    }

    public int give(int rule, int beat) {
        if (!isRule(rule) || beat < 0 || beat > now.loud) {
            return BAD;
        }
        act();
        return now.beats.set(rule, beat);
    }

    public int play(int hand, int rule) {
        if (!isHand(hand) || !(rule == NONE || isRule(rule))) {
            return BAD;
        }
        act();
        return now.plays.set(hand, rule);
    }

    public int soup(int hand, int n) {
        if (!isHand(hand) || n < 1 || n > 20) {
            return BAD;
        }
        act();
        now.strengths.set(hand, Math.min(20, now.strengths.get(hand) + n));
        return now.strengths.get(hand);
    }

    public int bars(int rule, int things) {
        if (!isRule(rule) || things < 0 || things > 63) {
            return BAD;
        }
        act();
        return now.bars.set(rule, things);
    }

    public int rule(int rule, int what) {
        if (!isRule(rule) || what < 0 || what > 4) {
            return BAD;
        }
        if (what == 3) {
            int bits = 0;
            for (int h = 0; h < now.hands(); h++) {
                bits |= now.playedBy(rule, h) ? 1 << h : 0;
            }
            return bits;
        }
        if (what == 4) {
            return "lo".indexOf(now.sorts.charAt(rule)) < 0 ? NONE : now.hour % now.hands();
        }
        return (what == 0 ? now.beats : what == 1 ? now.losses : now.bars).get(rule);
    }

    public int hand(int hand, int what) {
        if (!isHand(hand) || what < 0 || what > 2) {
            return BAD;
        }
        if (what == 2) {
            int bits = 0;
            for (int r = 0; r < now.rules(); r++) {
                bits |= now.playedBy(r, hand) ? 1 << r : 0;
            }
            return bits;
        }
        return (what == 0 ? now.strengths : now.plays).get(hand);
    }

    public int stand(int what) {
        if (now == null) {
            return STATE;
        }
        return switch (what) {
            case 0 -> now.holding();
            case 1 -> now.barred();
            case 2 -> 63 - now.barred();
            case 3 -> now.allBeat();
            case 4 -> now.loud;
            default -> BAD;
        };
    }

    public int ahead(int rule, int n) {
        return isRule(rule) && n >= 0 && n <= 60 ? now.later(n).beats.get(rule) : BAD;
    }

    public int strong(int hand, int n) {
        return isHand(hand) && n >= 0 && n <= 60 ? now.later(n).strengths.get(hand) : BAD;
    }

    public int barred(int n) {
        return now == null ? STATE : n < 0 || n > 60 ? BAD : now.later(n).barred();
    }

    public int when(int rule) {
        if (!isRule(rule)) {
            return BAD;
        }
        for (int n = 0; n <= 60; n++) {
            if (now.later(n).beats.get(rule) == 0) {
                return n;
            }
        }
        return NONE;
    }

    public int first(int what) {
        if (now == null) {
            return STATE;
        }
        if (what != 0 && what != 1) {
            return BAD;
        }
        int which = NONE;
        int least = NONE;
        for (int r = 0; r < now.rules(); r++) {
            int n = when(r);
            if (n > 0 && (least == NONE || n < least)) {
                least = n;
                which = r;
            }
        }
        return what == 0 ? which : least;
    }

    public int hands(int rule, int n, int what) {
        if (!isRule(rule) || n < 1 || n > 30 || what < 0 || what > 1) {
            return BAD;
        }
        for (int many = 0; many <= now.hands(); many++) {
            for (int set = 0; set < 1 << now.hands(); set++) {
                if (Integer.bitCount(set) == many && holdsBy(rule, n, set)) {
                    return what == 0 ? many : set;
                }
            }
        }
        return NONE;
    }

    private boolean holdsBy(int rule, int n, int set) {
        Night other = now.copied();
        for (int h = 0; h < now.hands(); h++) {
            if ((set & 1 << h) != 0) {
                other.plays.set(h, rule);
            } else if (now.plays.get(h) == rule) {
                other.plays.set(h, NONE);
            }
        }
        return other.later(n).beats.get(rule) > 0;
    }

    public int rota(int n, int hand) {
        if (now == null) {
            return STATE;
        }
        if (n < 1 || n > 12 || hand < -1 || hand >= now.hands()) {
            return BAD;
        }
        Night best = null;
        Night bestEnd = null;
        int base = now.rules() + 1;
        for (int k = 0; k < (int) Math.pow(base, now.hands()); k++) {
            Night way = now.copied();
            int rest = k;
            for (int h = now.hands() - 1; h >= 0; h--) {
                way.plays.set(h, rest % base == 0 ? NONE : rest % base - 1);
                rest /= base;
            }
            Night end = way.later(n);
            if (best == null || isBetter(end, bestEnd)) {
                best = way;
                bestEnd = end;
            }
        }
        return hand < 0 ? Integer.bitCount(bestEnd.holding()) : best.plays.get(hand);
    }

    private static boolean isBetter(Night a, Night b) {
        int more = Integer.bitCount(a.holding()) - Integer.bitCount(b.holding());
        return more > 0 || more == 0 && a.allBeat() > b.allBeat();
    }

    public int cover(int things, int what) {
        if (now == null) {
            return STATE;
        }
        if (things < 0 || things > 63 || what < 0 || what > 1) {
            return BAD;
        }
        for (int many = 0; many <= now.rules(); many++) {
            for (int set = 0; set < 1 << now.rules(); set++) {
                int all = 0;
                boolean hold = true;
                for (int r = 0; r < now.rules(); r++) {
                    if ((set & 1 << r) != 0) {
                        all |= now.bars.get(r);
                        hold &= now.beats.get(r) > 0;
                    }
                }
                if (hold && Integer.bitCount(set) == many && (all & things) == things) {
                    return what == 0 ? many : set;
                }
            }
        }
        return NONE;
    }

    public int fall(int things) {
        if (now == null) {
            return STATE;
        }
        if (things < 0 || things > 63) {
            return BAD;
        }
        int bits = 0;
        for (int r = 0; r < now.rules(); r++) {
            bits |= now.beats.get(r) > 0 && (now.bars.get(r) & things) > 0 ? 1 << r : 0;
        }
        return bits;
    }

    public int byTurns(int rule, int n, int m) {
        if (!isRule(rule) || n < 0 || n > 4 || m < 1 || m > 20) {
            return BAD;
        }
        return turns(now, rule, n, m, true);
    }

    private static int turns(Night at, int rule, int left, int m, boolean first) {
        if (left == 0) {
            return at.later(m).beats.get(rule);
        }
        List<Integer> outcomes = new ArrayList<>();
        outcomes.add(turns(at, rule, left - 1, m, !first));
        for (int h = 0; h < at.hands(); h++) {
            if (h % 2 == 0 == first) {
                Night other = at.copied();
                other.plays.set(h, first ? rule : NONE);
                outcomes.add(turns(other, rule, left - 1, m, !first));
            }
        }
        return first ? outcomes.stream().max(Integer::compare).get() : outcomes.stream().min(Integer::compare).get();
    }

    public int share(int hand, int n) {
        if (!isHand(hand) || n < 0 || n > 999) {
            return BAD;
        }
        int all = 0;
        for (int s : now.strengths) {
            all += 20 - s;
        }
        int[] gets = new int[now.hands()];
        int over = n;
        for (int h = 0; h < now.hands() && all > 0; h++) {
            gets[h] = n * (20 - now.strengths.get(h)) / all;
            over -= gets[h];
        }
        for (int h = 0; h < now.hands(); h++) {
            if (over > 0 && now.strengths.get(h) < 20) {
                gets[h]++;
                over--;
            }
        }
        return gets[hand];
    }

    private int item(int row, int i) {
        return java.lang.reflect.Array.getInt(rows[row], i);
    }

    private boolean isSo(Night night, int rule, int row, int i, int n) {
        for (int k = 0; k < n; k++) {
            if (night.later(k + 1).beats.get(rule) != item(row, i + k)) {
                return false;
            }
        }
        return true;
    }

    private int hear(int row, int i, int n) {
        return rows[row] == null ? 1 : i < 0 || (long) i + n > size(rows[row]) ? 2 : 0;
    }

    public int who(int rule, int which, int row, int i, int n) {
        if (!isRule(rule) || which < 0 || which > 3 || row < 0 || row > 7 || n < 1 || n > 12) {
            return BAD;
        }
        if (hear(row, i, n) != 0) {
            return found(hear(row, i, n));
        }
        int bits = 0;
        List<Integer> beats = new ArrayList<>();
        for (int v = 0; v <= 60; v++) {
            Night other = now.copied();
            if (which == 0 && v >= 1 && v <= 5) {
                other.sorts.setCharAt(rule, " sgwlo".charAt(v));
                bits |= isSo(other, rule, row, i, n) ? 1 << v : 0;
            } else if (which == 1 && v >= 1 && v <= 9) {
                other.losses.set(rule, v);
                bits |= isSo(other, rule, row, i, n) ? 1 << v : 0;
            } else if (which >= 2 && v <= now.loud) {
                other.beats.set(rule, v);
                if (isSo(other, rule, row, i, n)) {
                    beats.add(v);
                }
            }
        }
        return fine(which < 2 ? bits : which == 2 ? beats.size() : beats.isEmpty() ? NONE : beats.get(0));
    }

    public int felt(int hand, int rule, int row, int i, int n) {
        if (!isHand(hand) || !isRule(rule) || row < 0 || row > 7 || n < 1 || n > 12) {
            return BAD;
        }
        if (hear(row, i, n) != 0) {
            return found(hear(row, i, n));
        }
        int bits = 0;
        for (int v = 0; v <= 20; v++) {
            Night other = now.copied();
            other.strengths.set(hand, v);
            bits |= isSo(other, rule, row, i, n) ? 1 << v : 0;
        }
        return fine(bits);
    }

    public long sleep(int rule, int n, int p, int what) {
        if (!isRule(rule) || n < 0 || n > 60 || p < 0 || p > 10 || what < 0 || what > 1) {
            return BAD;
        }
        BigInteger above = asleep(now, 0, rule, n, p);
        BigInteger below = BigInteger.TEN.pow(now.hands());
        BigInteger common = above.gcd(below);
        return (what == 0 ? above : below).divide(common).longValueExact();
    }

    private static BigInteger asleep(Night night, int h, int rule, int n, int p) {
        if (h == night.hands()) {
            return night.later(n).beats.get(rule) > 0 ? BigInteger.ONE : BigInteger.ZERO;
        }
        Night other = night.copied();
        other.strengths.set(h, 0);
        return asleep(other, h + 1, rule, n, p).multiply(BigInteger.valueOf(p))
            .add(asleep(night, h + 1, rule, n, p).multiply(BigInteger.valueOf(10 - p)));
    }

    public int drawn(int n, int seed, int what) {
        if (now == null) {
            return STATE;
        }
        if (n < 0 || n > 60 || seed < 1 || seed > 999999 || what < 0 || what > 1) {
            return BAD;
        }
        Night at = now.copied();
        BigInteger x = BigInteger.valueOf(seed);
        for (int i = 0; i < n; i++) {
            x = x.multiply(BigInteger.valueOf(16807)).mod(BigInteger.valueOf(2147483647));
            int hand = x.mod(BigInteger.valueOf(at.hands())).intValue();
            int rule = x.mod(BigInteger.valueOf(at.rules())).intValue();
            switch (x.mod(BigInteger.valueOf(3)).intValue()) {
                case 0 -> at.plays.set(hand, rule);
                case 1 -> at.plays.set(hand, NONE);
                default -> { }
            }
            if (at.beats.get(rule) == 0 && x.mod(BigInteger.valueOf(5)).signum() == 0) {
                at.beats.set(rule, 9);
            }
            at = at.later();
        }
        return what == 0 ? at.holding() : at.allBeat();
    }

    public int image(int k) {
        if (k != 0 && k != 1) {
            return BAD;
        }
        if (now == null) {
            return STATE;
        }
        images[k] = now.copied();
        return 1;
    }

    public int restore(int k) {
        if (k != 0 && k != 1) {
            return BAD;
        }
        if (images[k] == null) {
            return STATE;
        }
        now = images[k].copied();
        acts.clear();
        return 1;
    }

    public int kind(int one) {
        return isRule(one) ? " sgwlo".indexOf(now.sorts.charAt(one)) : BAD;
    }

    public int as(int one, int kind) {
        if (!isRule(one) || kind < 0 || kind > 5) {
            return BAD;
        }
        String[] wider = {"sgwlo", "sgw", "g", "w", "lo", "o"};
        return wider[kind].indexOf(now.sorts.charAt(one)) < 0 ? found(3) : fine(one);
    }

    public int ask(int one, int what) {
        if (!isRule(one) || what < 0 || what > 1) {
            return BAD;
        }
        trace.clear();
        Body body = switch (now.sorts.charAt(one)) {
            case 's' -> new Song(this, one);
            case 'g' -> new Great(this, one);
            case 'w' -> new Whim(this, one);
            case 'l' -> new Lost(this, one);
            default -> new Hoop(this, one);
        };
        return what == 0 ? body.size() : body.mark();
    }

    public int trace(int i) {
        return i < 0 || i >= trace.size() ? NONE : trace.get(i);
    }

    public int count(int what) {
        return switch (what) {
            case 0 -> (int) Arrays.stream(rows).filter(row -> row != null).count();
            case 1 -> now == null ? 0 : now.rules();
            case 2 -> now == null ? 0 : now.hands();
            case 3 -> now == null ? 0 : now.hour;
            case 4 -> now == null ? 0 : now.allBeat();
            case 5 -> now == null ? 0 : now.strengths.stream().mapToInt(Integer::intValue).sum();
            case 6 -> acts.size();
            case 7 -> tape.length();
            default -> BAD;
        };
    }

    public int status() {
        return statusNumber;
    }
}
