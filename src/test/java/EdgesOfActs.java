/** Promises 9 and 11 to 14: ACTS, and undone ones. */
final class EdgesOfActs {
    private static final int NONE = Checks.NONE, BAD = Checks.BAD, STATE = Checks.STATE;
    private static final int LEAST = Checks.LEAST, MOST = Checks.MOST;

    private final Checks checks;

    EdgesOfActs(Checks checks) {
        this.checks = checks;
    }

    void run() {
        noneToUndo();
        mostKept();
        oldestForgotten();
        latestFirst();
        allOfAnHour();
        refusedIsNoAct();
        asItWasIsAnAct();
        foretoldIsNoAct();
        gives();
        plays();
        soups();
        bars();
    }

    private void noneToUndo() {
        checks.says(9, "The latest ACT is undone: how many can be undone yet. STATE: none.");
        JingleLaws x = new JingleLaws();
        checks.due("no CAMP", x.undo(), STATE);
        Checks.feed(x, "f20;h5;s9,1,1;").camp();
        checks.due("no ACT", x.undo(), STATE);
        x.hours(1);
        checks.due("the one", x.undo(), 0);
        checks.due("no more", x.undo(), STATE);
        checks.due("it stays", x.count(3), 0);
        checks.due("an undone one is no ACT", x.count(6), 0);
        x.hours(2);
        x.image(0);
        checks.due("an IMAGE takes none", x.count(6), 2);
        x.restore(0);
        checks.due("one that was restored has none", x.undo(), STATE);
        x.hours(1);
        Checks.feed(x, "f20;h5;s9,1,1;").camp();
        checks.due("a new CAMP has none", x.undo(), STATE);
    }

    private void mostKept() {
        checks.says(0, "ACTS (24 at most are kept");
        for (int acts = 23; acts <= 26; acts++) {
            JingleLaws x = Checks.told("f60;h5;s0,1,1;");
            for (int k = 1; k <= acts; k++) {
                x.give(0, k);
                checks.due("ACT " + k, x.count(6), Math.min(24, k));
            }
            int kept = Math.min(24, acts);
            for (int left = kept - 1; left >= 0; left--) {
                checks.due("undo", x.undo(), left);
                checks.due("BEAT", x.rule(0, 0), acts - kept + left);
            }
            checks.due("no more", x.undo(), STATE);
            checks.due("BEAT", x.rule(0, 0), acts - kept);
        }
    }

    private void oldestForgotten() {
        checks.says(0, "of more the oldest is forgotten");
        JingleLaws x = Checks.told("f60;h5;s60,1,1;");
        x.bars(0, 7);
        x.hours(23);
        checks.due("24", x.count(6), 24);
        x.soup(0, 1);
        checks.due("24 yet", x.count(6), 24);
        for (int left = 23; left >= 0; left--) {
            checks.due("undo", x.undo(), left);
        }
        checks.due("no more", x.undo(), STATE);
        checks.due("HOUR", x.count(3), 0);
        checks.due("the oldest was forgotten", x.rule(0, 2), 7);
        // Twice around the ring, with some undone between.
        for (int k = 0; k < 30; k++) {
            x.give(0, k);
        }
        for (int k = 0; k < 10; k++) {
            x.undo();
        }
        checks.due("BEAT", x.rule(0, 0), 19);
        for (int k = 30; k < 50; k++) {
            x.give(0, k);
        }
        checks.due("24", x.count(6), 24);
        for (int k = 0; k < 24; k++) {
            x.undo();
        }
        checks.due("BEAT behind all that are kept", x.rule(0, 0), 15);
        checks.due("no more", x.undo(), STATE);
    }

    private void latestFirst() {
        checks.says(0, "each can be undone, the latest first");
        JingleLaws x = Checks.told("f20;h5;h6;s9,1,1;s8,2,2;");
        x.give(1, 20);
        x.play(0, 1);
        x.play(0, NONE);
        x.soup(1, 20);
        x.bars(0, 60);
        x.hours(1);
        checks.due("an HOUR", x.undo(), 5);
        checks.due("HOUR", x.count(3), 0);
        checks.due("BARS yet", x.rule(0, 2), 60);
        checks.due("BARS", x.undo(), 4);
        checks.due("BARS", x.rule(0, 2), 1);
        checks.due("STRENGTH yet", x.hand(1, 0), 20);
        checks.due("soup", x.undo(), 3);
        checks.due("STRENGTH", x.hand(1, 0), 6);
        checks.due("plays none yet", x.hand(0, 1), NONE);
        checks.due("plays none", x.undo(), 2);
        checks.due("plays", x.hand(0, 1), 1);
        checks.due("plays", x.undo(), 1);
        checks.due("plays none", x.hand(0, 1), NONE);
        checks.due("BEAT yet", x.rule(1, 0), 20);
        checks.due("give", x.undo(), 0);
        checks.due("BEAT", x.rule(1, 0), 8);
    }

    /** What was cut by a bound comes back as it was. */
    private void allOfAnHour() {
        JingleLaws x = Checks.told("f20;h19;h1;h20;s1,9,1;l20,9,2;o3,9,4;w2,9,8;g19,1,16;");
        x.play(1, 4);
        x.play(2, 3);
        x.hours(3);
        for (int left = 4; left >= 2; left--) {
            checks.due("undo", x.undo(), left);
        }
        int[] beats = {1, 20, 3, 2, 19};
        for (int r = 0; r < 5; r++) {
            checks.due("BEAT of " + r, x.rule(r, 0), beats[r]);
        }
        int[] strengths = {19, 1, 20};
        for (int h = 0; h < 3; h++) {
            checks.due("STRENGTH of " + h, x.hand(h, 0), strengths[h]);
        }
        checks.due("HAND 1 plays yet", x.hand(1, 1), 4);
        checks.due("who has it", x.rule(1, 4), 0);
    }

    private void refusedIsNoAct() {
        checks.says(0, "What is refused, or found, changes nothing but status().");
        JingleLaws x = Checks.told("f20;h5;s9,1,1;");
        x.hours(0);
        x.hours(25);
        x.give(1, 0);
        x.give(0, 21);
        x.play(1, 0);
        x.play(0, 1);
        x.soup(1, 1);
        x.soup(0, 21);
        x.bars(1, 0);
        x.bars(0, 64);
        x.undo();
        checks.due("no ACT", x.count(6), 0);
        checks.due("no ACT", x.undo(), STATE);
    }

    /** By its most plain words, what is given out, played, eaten or barred once more is an ACT, too. */
    private void asItWasIsAnAct() {
        checks.says(0, "an HOUR; a RULE is given out (BEAT is another); a HAND plays another RULE, or none; soup");
        JingleLaws x = Checks.told("f20;h20;s9,1,1;");
        checks.due("give", x.give(0, 9), 9);
        checks.due("an ACT", x.count(6), 1);
        checks.due("play", x.play(0, NONE), NONE);
        checks.due("an ACT", x.count(6), 2);
        checks.due("soup", x.soup(0, 1), 20);
        checks.due("an ACT", x.count(6), 3);
        checks.due("bars", x.bars(0, 1), 1);
        checks.due("an ACT", x.count(6), 4);
        checks.due("undo", x.undo(), 3);
    }

    private void foretoldIsNoAct() {
        checks.says(0, "FORETOLD (nothing changes).");
        JingleLaws x = Checks.told("f20;h5;h6;h20;s9,1,1;o8,2,2;");
        x.play(0, 0);
        x.row(0, 2, 12);
        Refusals.Digest ahead = Refusals.digest(x);
        x.ahead(0, 60);
        x.strong(0, 60);
        x.barred(60);
        x.when(0);
        x.first(0);
        x.hands(0, 30, 1);
        x.rota(12, 0);
        x.cover(3, 1);
        x.fall(3);
        x.byTurns(0, 4, 20);
        x.share(0, 999);
        for (int which = 0; which < 4; which++) {
            x.who(1, which, 0, 0, 12);
        }
        x.felt(0, 0, 0, 0, 12);
        x.sleep(0, 60, 5, 0);
        x.drawn(60, 999999, 0);
        checks.due(ahead.unlike(Refusals.digest(x)), ahead.isAs(Refusals.digest(x)) ? 1 : 0, 1);
    }

    private void gives() {
        checks.says(11, "Given out with a BEAT (0 to LOUD): BEAT that it had. BAD.");
        JingleLaws none = new JingleLaws();
        checks.all(BAD, "no CAMP", r -> none.give(r, 0), -1, 0, 1);
        for (int loud : new int[] {10, 60}) {
            JingleLaws x = Checks.told("f" + loud + ";h5;s9,1,1;s8,1,1;");
            checks.all(BAD, "RULE", r -> x.give(r, 0), LEAST, -1, 2, MOST);
            checks.all(BAD, "BEAT", b -> x.give(0, b), LEAST, -1, loud + 1, MOST);
            checks.due("as it was", x.give(0, 0), 9);
            checks.due("0", x.give(0, loud), 0);
            checks.due("LOUD", x.give(0, 1), loud);
            checks.due("the other one", x.give(1, 0), 8);
            checks.due("1 HOLDS, 0 does not", x.stand(0), 1);
        }
    }

    private void plays() {
        checks.says(12, "A HAND plays a RULE (NONE: none): what it played (NONE). BAD.");
        JingleLaws none = new JingleLaws();
        checks.all(BAD, "no CAMP", r -> none.play(0, r), NONE, 0);
        JingleLaws x = Checks.told("f20;h5;h5;s9,1,1;s8,1,1;o8,1,1;");
        checks.all(BAD, "HAND", h -> x.play(h, 0), LEAST, NONE, -1, 2, MOST);
        checks.all(BAD, "HAND, none", h -> x.play(h, NONE), LEAST, -1, 2, MOST);
        checks.all(BAD, "RULE", r -> x.play(0, r), LEAST, NONE - 1, NONE + 1, -1, 3, MOST);
        checks.due("none yet", x.play(0, 0), NONE);
        checks.due("the first", x.play(0, 2), 0);
        checks.due("the last", x.play(0, NONE), 2);
        checks.due("none again", x.play(0, NONE), NONE);
        checks.due("none, HAND 1", x.play(1, 2), NONE);
    }

    private void soups() {
        checks.says(13, "Soup (1 to 20): STRENGTH then. BAD.");
        JingleLaws none = new JingleLaws();
        checks.all(BAD, "no CAMP", h -> none.soup(h, 1), -1, 0, 1);
        JingleLaws x = Checks.told("f20;h5;h0;s9,1,1;");
        checks.all(BAD, "HAND", h -> x.soup(h, 1), LEAST, -1, 2, MOST);
        checks.all(BAD, "n", n -> x.soup(0, n), LEAST, -1, 0, 21, MOST);
        checks.due("STRENGTH is as it was", x.hand(0, 0), 5);
        checks.says(0, "soup (STRENGTH more, 20 at most)");
        int[] had = {0, 0, 1, 18, 19, 19, 20, 20};
        int[] eaten = {1, 20, 20, 1, 1, 2, 1, 20};
        int[] then = {1, 20, 20, 19, 20, 20, 20, 20};
        for (int k = 0; k < had.length; k++) {
            JingleLaws y = Checks.told("f20;h" + had[k] + ";h3;s9,1,1;");
            checks.due(eaten[k] + " to " + had[k], y.soup(0, eaten[k]), then[k]);
            checks.due(eaten[k] + " to " + had[k], y.hand(0, 0), then[k]);
            checks.due("the other one", y.hand(1, 0), 3);
            y.undo();
            checks.due("undone", y.hand(0, 0), had[k]);
        }
    }

    private void bars() {
        checks.says(14, "BARS (0 to 63): what they were. BAD.");
        JingleLaws none = new JingleLaws();
        checks.all(BAD, "no CAMP", r -> none.bars(r, 0), -1, 0, 1);
        JingleLaws x = Checks.told("f20;h5;s9,1,1;s0,1,2;");
        checks.all(BAD, "RULE", r -> x.bars(r, 0), LEAST, -1, 2, MOST);
        checks.all(BAD, "THINGS", t -> x.bars(0, t), LEAST, -1, 64, MOST);
        checks.due("as they were", x.bars(0, 0), 1);
        checks.due("none", x.bars(0, 63), 0);
        checks.due("all", x.bars(0, 32), 63);
        checks.due("of one that does not HOLD", x.bars(1, 31), 2);
        checks.due("BARRED", x.stand(1), 32);
    }
}
