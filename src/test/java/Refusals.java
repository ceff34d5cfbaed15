import java.util.ArrayList;
import java.util.List;

/**
 * "What is refused, or found, changes nothing but status()": for each refusal an object to which it was answered, and
 * another to which it was not, must answer all that comes behind it alike.
 */
final class Refusals {
    private static final int NONE = Checks.NONE, BAD = Checks.BAD, STATE = Checks.STATE, FULL = Checks.FULL;
    private static final int NULL = Checks.NULL, PLACE = Checks.PLACE, KIND = Checks.KIND, SIZE = Checks.SIZE,
        STORE = Checks.STORE;

    private interface Call {
        long on(JingleLaws x);
    }

    private interface Maker {
        JingleLaws make();
    }

    /** What an object answers, call by call. */
    static final class Digest {
        private final List<Long> answers = new ArrayList<>();

        private void add(long answer) {
            answers.add(answer);
        }

        boolean isAs(Digest other) {
            return answers.equals(other.answers);
        }

        String unlike(Digest other) {
            for (int k = 0; k < answers.size() && k < other.answers.size(); k++) {
                if (!answers.get(k).equals(other.answers.get(k))) {
                    return "answer " + k + " is " + other.answers.get(k) + ", was " + answers.get(k);
                }
            }
            return "all is as it was";
        }
    }

    private final Checks checks;

    Refusals(Checks checks) {
        this.checks = checks;
    }

    void run() {
        checks.says(0, "What is refused, or found, changes nothing but status().");
        ofRows();
        ofActs();
        ofForetold();
        ofHeard();
        ofImagesAndAsks();
        withoutCamp();
        ofFull();
        ofFaults();
    }

    /** What can be seen without a change; status() aside. */
    static Digest digest(JingleLaws x) {
        Digest all = new Digest();
        for (int what = 0; what <= 7; what++) {
            all.add(x.count(what));
        }
        all.add(x.fault());
        for (int i = 0; i < 16; i++) {
            all.add(x.trace(i));
        }
        for (int what = 0; what < 5; what++) {
            all.add(x.stand(what));
        }
        for (int r = 0; r < x.count(1); r++) {
            all.add(x.kind(r));
            for (int what = 0; what < 5; what++) {
                all.add(x.rule(r, what));
            }
        }
        for (int h = 0; h < x.count(2); h++) {
            for (int what = 0; what < 3; what++) {
                all.add(x.hand(h, what));
            }
        }
        return all;
    }

    /** All that can be seen, by calls that use it up: ACTS, IMAGES, the tape, the ROWS. */
    private static Digest whole(JingleLaws x) {
        Digest all = digest(x);
        for (int k = 0; k < 25 && x.count(6) > 0; k++) {
            all.add(x.undo());
        }
        all.add(digest(x).answers.hashCode());
        for (int k = 0; k < 2; k++) {
            all.add(x.restore(k));
            all.add(x.count(3));
            all.add(x.count(4));
        }
        all.add(x.feed(';'));
        all.add(x.camp());
        all.add(x.fault());
        // ITEMS can be told by this CAMP.
        Checks.feed(x, "f60;h0;g0,1,0;");
        all.add(x.camp());
        for (int row = 0; row < 8; row++) {
            for (int i = 0; i < 4; i++) {
                all.add(EdgesOfRows.item(x, row, i));
            }
            all.add(x.set(row, 0, 0x12345678));
            all.add(x.drop(row));
        }
        return all;
    }

    /** An object in which there is something of all. */
    private static JingleLaws rich() {
        JingleLaws x = Checks.feed(new JingleLaws(), "f99;");
        x.camp();
        Checks.feed(x, "f30;h8;h12;h0;h20;s10,3,5;g20,4,8;w6,2,3;l15,5,48;o4,2,1;").camp();
        Checks.fill(x, 0, 7, 6, 5);
        x.row(1, 0, 3);
        x.set(1, 1, 9);
        x.row(2, 1, 0);
        x.play(0, 1);
        x.image(0);
        x.hours(2);
        x.bars(4, 33);
        x.soup(2, 3);
        Checks.feed(x, "f6");
        x.ask(1, 0);
        // The latest FINDING is KIND.
        x.as(0, 2);
        return x;
    }

    private static int numberOf(long answer, int before) {
        return answer <= NULL && answer >= STORE ? (int) (-1000010 - answer) : before;
    }

    private void refused(String call, Maker maker, long due, Call of) {
        JingleLaws x = maker.make();
        JingleLaws twin = maker.make();
        long answer = of.on(x);
        checks.due(call, answer, due);
        checks.due("status behind " + call, x.status(), numberOf(due, twin.status()));
        Digest was = whole(twin);
        Digest is = whole(x);
        checks.due(call + ": " + was.unlike(is), was.isAs(is) ? 1 : 0, 1);
    }

    private void refused(String call, long due, Call of) {
        refused(call, Refusals::rich, due, of);
    }

    private void ofRows() {
        refused("row, ROW", BAD, x -> x.row(8, 0, 1));
        refused("row, LANE", BAD, x -> x.row(0, 3, 1));
        refused("row, n", BAD, x -> x.row(0, 0, 41));
        refused("row, SIZE", SIZE, x -> x.row(0, 0, -1));
        refused("set, ROW", BAD, x -> x.set(-1, 0, 5));
        refused("set, NULL", NULL, x -> x.set(7, 0, 5));
        refused("set, PLACE", PLACE, x -> x.set(0, 3, 5));
        refused("set, PLACE of none", PLACE, x -> x.set(2, 0, 5));
        refused("copy, ROWS", BAD, x -> x.copy(0, 0, 8, 0, 1));
        refused("copy, NULL", NULL, x -> x.copy(0, 0, 7, 0, 1));
        refused("copy, STORE", STORE, x -> x.copy(0, 0, 1, 0, 3));
        refused("copy, PLACE of a", PLACE, x -> x.copy(0, 1, 0, 0, 3));
        refused("copy, PLACE of b", PLACE, x -> x.copy(0, 0, 0, 1, 3));
        refused("drop, ROW", BAD, x -> x.drop(8));
        refused("drop, NULL", NULL, x -> x.drop(7));
    }

    private void ofActs() {
        refused("feed", BAD, x -> x.feed(256));
        refused("hours 0", BAD, x -> x.hours(0));
        refused("hours 25", BAD, x -> x.hours(25));
        refused("give, RULE", BAD, x -> x.give(5, 0));
        refused("give, BEAT", BAD, x -> x.give(0, 31));
        refused("play, HAND", BAD, x -> x.play(4, 0));
        refused("play, RULE", BAD, x -> x.play(0, 5));
        refused("soup, HAND", BAD, x -> x.soup(4, 1));
        refused("soup, n", BAD, x -> x.soup(0, 21));
        refused("bars, RULE", BAD, x -> x.bars(5, 1));
        refused("bars, THINGS", BAD, x -> x.bars(0, 64));
        refused("rule", BAD, x -> x.rule(0, 5));
        refused("hand", BAD, x -> x.hand(0, 3));
        refused("stand", BAD, x -> x.stand(5));
        refused("undo", Refusals::withoutActs, STATE, x -> x.undo());
    }

    private static JingleLaws withoutActs() {
        JingleLaws x = rich();
        x.restore(0);
        return x;
    }

    private void ofForetold() {
        refused("ahead", BAD, x -> x.ahead(0, 61));
        refused("strong", BAD, x -> x.strong(0, 61));
        refused("barred", BAD, x -> x.barred(61));
        refused("when", BAD, x -> x.when(5));
        refused("first", BAD, x -> x.first(2));
        refused("hands", BAD, x -> x.hands(0, 31, 0));
        refused("rota", BAD, x -> x.rota(13, -1));
        refused("rota, HAND", BAD, x -> x.rota(1, 4));
        refused("cover", BAD, x -> x.cover(64, 0));
        refused("fall", BAD, x -> x.fall(64));
        refused("byTurns", BAD, x -> x.byTurns(0, 5, 1));
        refused("share", BAD, x -> x.share(0, 1000));
        refused("sleep", BAD, x -> x.sleep(0, 61, 0, 0));
        refused("drawn", BAD, x -> x.drawn(1, 0, 0));
    }

    private void ofHeard() {
        refused("who, RULE", BAD, x -> x.who(5, 0, 0, 0, 1));
        refused("who, which", BAD, x -> x.who(0, 4, 0, 0, 1));
        refused("who, ROW", BAD, x -> x.who(0, 0, 8, 0, 1));
        refused("who, n", BAD, x -> x.who(0, 0, 0, 0, 13));
        refused("who, NULL", NULL, x -> x.who(0, 0, 7, 0, 1));
        refused("who, PLACE", PLACE, x -> x.who(0, 0, 0, 3, 1));
        refused("felt, HAND", BAD, x -> x.felt(4, 0, 0, 0, 1));
        refused("felt, RULE", BAD, x -> x.felt(0, 5, 0, 0, 1));
        refused("felt, ROW", BAD, x -> x.felt(0, 0, 8, 0, 1));
        refused("felt, n", BAD, x -> x.felt(0, 0, 0, 0, 0));
        refused("felt, NULL", NULL, x -> x.felt(0, 0, 7, 0, 1));
        refused("felt, PLACE", PLACE, x -> x.felt(0, 0, 0, -1, 1));
    }

    private void ofImagesAndAsks() {
        refused("image", BAD, x -> x.image(2));
        refused("restore", BAD, x -> x.restore(2));
        refused("restore, none was kept", STATE, x -> x.restore(1));
        refused("kind", BAD, x -> x.kind(5));
        refused("as, RULE", BAD, x -> x.as(5, 0));
        refused("as, KIND", BAD, x -> x.as(0, 6));
        refused("as, it is no such one", KIND, x -> x.as(0, 5));
        refused("ask, RULE", BAD, x -> x.ask(5, 0));
        refused("ask, what", BAD, x -> x.ask(0, 2));
        refused("trace", NONE, x -> x.trace(16));
        refused("count", BAD, x -> x.count(8));
    }

    private static JingleLaws campless() {
        JingleLaws x = Checks.feed(new JingleLaws(), "f");
        x.row(0, 1, 2);
        x.set(0, 2, 2);
        return x;
    }

    private void withoutCamp() {
        Maker none = Refusals::campless;
        refused("hours", none, STATE, x -> x.hours(1));
        refused("undo", none, STATE, x -> x.undo());
        refused("stand", none, STATE, x -> x.stand(0));
        refused("barred", none, STATE, x -> x.barred(0));
        refused("first", none, STATE, x -> x.first(0));
        refused("rota", none, STATE, x -> x.rota(1, -1));
        refused("cover", none, STATE, x -> x.cover(0, 0));
        refused("fall", none, STATE, x -> x.fall(0));
        refused("drawn", none, STATE, x -> x.drawn(0, 1, 0));
        refused("image", none, STATE, x -> x.image(0));
        refused("restore", none, STATE, x -> x.restore(0));
        refused("give", none, BAD, x -> x.give(0, 0));
        refused("play", none, BAD, x -> x.play(0, NONE));
        refused("soup", none, BAD, x -> x.soup(0, 1));
        refused("bars", none, BAD, x -> x.bars(0, 0));
        refused("who", none, BAD, x -> x.who(0, 0, 0, 0, 1));
        refused("felt", none, BAD, x -> x.felt(0, 0, 0, 0, 1));
        refused("as", none, BAD, x -> x.as(0, 0));
        refused("ask", none, BAD, x -> x.ask(0, 0));
    }

    private static JingleLaws withFullTape() {
        JingleLaws x = rich();
        for (int k = 0; k < 120; k++) {
            x.feed('0');
        }
        return x;
    }

    private void ofFull() {
        refused("feed", Refusals::withFullTape, FULL, x -> x.feed(';'));
        refused("hours at 999", () -> EdgesOfHours.atHour(999), FULL, x -> x.hours(1));
        refused("hours at 976", () -> EdgesOfHours.atHour(976), FULL, x -> x.hours(24));
        refused("hours at 999, BAD", () -> EdgesOfHours.atHour(999), BAD, x -> x.hours(25));
    }

    /** A FAULT leaves all but the tape, which is empty then, and fault(): by a second FAULT that is alike, too. */
    private void ofFaults() {
        checks.says(7, "-1000100 less the place of a FAULT: all stays.");
        String[] texts = {"", "f99;", "f30;h1;s1,1,1", "f30;h1;h1;h1;h1;h1;h1;"};
        int[] places = {0, 1, 13, 19};
        for (int k = 0; k < texts.length; k++) {
            String text = texts[k];
            refused("camp '" + text + "'", Refusals::faulted, -1000100 - places[k], x -> {
                int answer = Checks.feed(x, text).camp();
                Checks.feed(x, "f1;").camp();
                return answer;
            });
        }
    }

    private static JingleLaws faulted() {
        JingleLaws x = rich();
        x.camp();
        Checks.feed(x, "f1;").camp();
        return x;
    }
}
