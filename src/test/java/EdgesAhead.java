/** Promises 18 to 22: AHEAD, WHEN, FIRST. */
final class EdgesAhead {
    private static final int NONE = Checks.NONE, BAD = Checks.BAD, STATE = Checks.STATE;
    private static final int LEAST = Checks.LEAST, MOST = Checks.MOST;

    /**
     * For 14 HOURS its HAND has STRENGTH; then BEAT is 15, and 1 less with each three HOURS (5 less, 2 and 2 more): it
     * falls silent behind 60 HOURS.
     */
    private static final String FALLS_AT_60 = "f20;h14;l20,5,1;";
    /** With one more HOUR of STRENGTH, behind 61. */
    private static final String FALLS_AT_61 = "f20;h15;l20,5,1;";

    private final Checks checks;

    EdgesAhead(Checks checks) {
        this.checks = checks;
    }

    void run() {
        aheadRefused();
        asHoursGo();
        strongRefused();
        barredRefused();
        whens();
        whenAtEnd();
        firsts();
        firstOfSeveral();
        firstNone();
        beyondLastHour();
    }

    private void aheadRefused() {
        checks.says(0, "AHEAD by n HOURS (0 to 60): BEAT of a RULE; STRENGTH of a HAND; BARRED (bits).");
        checks.says(18, "AHEAD: BEAT. BAD.");
        JingleLaws none = new JingleLaws();
        checks.all(BAD, "no CAMP", n -> none.ahead(0, n), -1, 0, 60, 61);
        JingleLaws x = Checks.told("f60;h0;s60,1,1;s59,1,2;");
        checks.all(BAD, "RULE", r -> x.ahead(r, 0), LEAST, -1, 2, MOST);
        checks.all(BAD, "n", n -> x.ahead(0, n), LEAST, -1, 61, MOST);
        checks.due("0", x.ahead(0, 0), 60);
        checks.due("1", x.ahead(0, 1), 59);
        checks.due("59", x.ahead(0, 59), 1);
        checks.due("60", x.ahead(0, 60), 0);
        checks.due("59, the other one", x.ahead(1, 59), 0);
    }

    private void asHoursGo() {
        String text = "f30;h8;h12;h0;h20;s10,3,5;g20,4,8;w6,2,3;l15,5,48;o4,2,1;";
        JingleLaws x = Checks.told(text);
        JingleLaws y = Checks.told(text);
        for (int n = 0; n <= 60; n++) {
            for (int r = 0; r < 2; r++) {
                checks.due("BEAT of " + r + " ahead by " + n, x.ahead(r + 3, n), y.rule(r + 3, 0));
            }
            checks.due("STRENGTH ahead by " + n, x.strong(2, n), y.hand(2, 0));
            checks.due("BARRED ahead by " + n, x.barred(n), y.stand(1));
            y.hours(1);
        }
        checks.due("HOUR", x.count(3), 0);
    }

    private void strongRefused() {
        checks.says(19, "AHEAD: STRENGTH. BAD.");
        JingleLaws none = new JingleLaws();
        checks.all(BAD, "no CAMP", n -> none.strong(0, n), -1, 0, 60, 61);
        JingleLaws x = Checks.told("f60;h0;h17;h1;s60,1,1;");
        x.play(2, 0);
        checks.all(BAD, "HAND", h -> x.strong(h, 0), LEAST, -1, 3, MOST);
        checks.all(BAD, "n", n -> x.strong(0, n), LEAST, -1, 61, MOST);
        checks.due("0", x.strong(0, 0), 0);
        checks.due("9", x.strong(0, 9), 18);
        checks.due("10", x.strong(0, 10), 20);
        checks.due("60, 20 at most", x.strong(0, 60), 20);
        checks.due("1", x.strong(1, 1), 19);
        checks.due("2, 20 at most", x.strong(1, 2), 20);
        // 1, 0, 2, 1, 0, 2 ..: 60 is a whole number of rounds of three.
        checks.due("spent", x.strong(2, 1), 0);
        checks.due("59", x.strong(2, 59), 2);
        checks.due("60", x.strong(2, 60), 1);
    }

    private void barredRefused() {
        checks.says(20, "AHEAD: BARRED. BAD; STATE: no CAMP (ahead of BAD).");
        JingleLaws none = new JingleLaws();
        checks.all(STATE, "no CAMP", none::barred, LEAST, -1, 0, 60, 61, MOST);
        JingleLaws x = Checks.told("f60;h0;s60,1,1;s59,1,6;s0,1,8;");
        checks.all(BAD, "n", x::barred, LEAST, -1, 61, MOST);
        checks.due("0", x.barred(0), 7);
        checks.due("58", x.barred(58), 7);
        checks.due("59", x.barred(59), 1);
        checks.due("60", x.barred(60), 0);
    }

    private void whens() {
        checks.says(0, "WHEN a RULE does not HOLD: behind how many HOURS (0 to 60) first; NONE.");
        checks.says(21, "WHEN; NONE. BAD.");
        JingleLaws none = new JingleLaws();
        checks.all(BAD, "no CAMP", none::when, -1, 0, 1);
        JingleLaws x = Checks.told("f60;h0;s0,1,1;s1,1,1;s60,1,1;g1,1,1;o60,9,1;");
        checks.all(BAD, "RULE", x::when, LEAST, -1, 5, MOST);
        int[] due = {0, 1, 60, NONE, NONE};
        for (int r = 0; r < due.length; r++) {
            checks.due("when " + r, x.when(r), due[r]);
        }
        // It does not HOLD behind 1, HOLDS behind 2: the first counts.
        JingleLaws again = Checks.told("f60;h0;l1,1,1;");
        checks.due("HOLDS again", again.ahead(0, 2), 2);
        checks.due("the first", again.when(0), 1);
        JingleLaws silent = Checks.told("f60;h20;s0,1,1;");
        silent.play(0, 0);
        checks.due("it will HOLD", silent.ahead(0, 1), 2);
        checks.due("it does not now", silent.when(0), 0);
    }

    private void whenAtEnd() {
        JingleLaws x = Checks.told(FALLS_AT_60);
        checks.due("59", x.ahead(0, 59), 5);
        checks.due("60", x.ahead(0, 60), 0);
        checks.due("behind 60", x.when(0), 60);
        checks.due("first behind 60", x.first(1), 60);
        checks.due("which", x.first(0), 0);
        JingleLaws y = Checks.told(FALLS_AT_61);
        checks.due("60", y.ahead(0, 60), 5);
        checks.due("behind 61", y.when(0), NONE);
        checks.due("behind 61", y.first(1), NONE);
        checks.due("behind 61", y.first(0), NONE);
        y.hours(1);
        checks.due("an HOUR later, behind 60", y.when(0), 60);
        checks.due("an HOUR later, behind 60", y.first(0), 0);
    }

    private void firsts() {
        checks.says(22, "FIRST: which (what = 0), behind how many (1); NONE. BAD; STATE: no CAMP (ahead of BAD).");
        JingleLaws none = new JingleLaws();
        checks.all(STATE, "no CAMP", none::first, LEAST, -1, 0, 1, 2, MOST);
        JingleLaws x = Checks.told("f60;h0;s9,1,1;s3,1,1;s5,1,1;");
        checks.all(BAD, "what", x::first, LEAST, -1, 2, MOST);
        checks.due("which", x.first(0), 1);
        checks.due("behind", x.first(1), 3);
        JingleLaws last = Checks.told("f60;h0;s9,1,1;s9,1,1;s9,1,1;s9,1,1;s8,1,1;");
        checks.due("the last", last.first(0), 4);
        checks.due("behind", last.first(1), 8);
    }

    private void firstOfSeveral() {
        checks.says(0, "FIRST: the RULE that HOLDS and does not first, of several the least; behind how "
            + "many HOURS; NONE.");
        JingleLaws x = Checks.told("f60;h0;s0,1,1;s9,1,1;g8,4,1;w8,1,1;s4,1,1;");
        checks.due("three behind 4: the least, not the one that does not HOLD", x.first(0), 2);
        checks.due("behind", x.first(1), 4);
        // RULE 1 does not HOLD now, does behind 1 HOUR, does not behind 2.
        JingleLaws y = Checks.told("f60;h1;s9,1,1;s0,1,1;");
        y.play(0, 1);
        checks.due("RULE 1 behind 1", y.ahead(1, 1), 1);
        checks.due("RULE 1 behind 2", y.ahead(1, 2), 0);
        checks.due("it is not the first", y.first(0), 0);
        checks.due("behind", y.first(1), 9);
    }

    private void firstNone() {
        JingleLaws x = Checks.told("f60;h0;s0,1,1;g0,1,1;");
        checks.due("no RULE HOLDS", x.first(0), NONE);
        checks.due("no RULE HOLDS", x.first(1), NONE);
        x.give(1, 1);
        checks.due("one that never falls silent", x.first(0), NONE);
        checks.due("one that never falls silent", x.first(1), NONE);
        x.give(0, 1);
        checks.due("one that does", x.first(0), 0);
        checks.due("behind", x.first(1), 1);
    }

    private void beyondLastHour() {
        checks.says(0, "FORETOLD (nothing changes).");
        JingleLaws x = EdgesOfHours.atHour(999);
        checks.due("60 behind 999", x.barred(60), 2);
        checks.due("never", x.when(1), NONE);
        checks.due("HOUR", x.count(3), 999);
        x.give(0, 5);
        checks.due("behind 5", x.when(0), 5);
        checks.due("rota", x.rota(12, -1), 2);
        checks.due("drawn", x.drawn(0, 1, 0), 3);
        checks.due("HOUR", x.count(3), 999);
    }
}
