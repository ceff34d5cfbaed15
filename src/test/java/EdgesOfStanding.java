/** Promises 15 to 17: what stands now. */
final class EdgesOfStanding {
    private static final int NONE = Checks.NONE, BAD = Checks.BAD, STATE = Checks.STATE;
    private static final int LEAST = Checks.LEAST, MOST = Checks.MOST;
    private static final String ALL_KINDS = "f30;h8;h12;h0;h20;s10,3,5;g20,4,8;w6,2,3;l15,5,48;o4,2,1;";

    private final Checks checks;

    EdgesOfStanding(Checks checks) {
        this.checks = checks;
    }

    void run() {
        rules();
        whoHas();
        hands();
        stands();
        extremes();
    }

    private void rules() {
        checks.says(15, "3 HANDS by which it is PLAYED in this HOUR (bits), 4 the HAND that has it "
            + "(NONE: another KIND). BAD.");
        JingleLaws none = new JingleLaws();
        checks.all(BAD, "no CAMP", what -> none.rule(0, what), -1, 0, 4, 5);
        JingleLaws x = Checks.told(ALL_KINDS);
        checks.all(BAD, "RULE", r -> x.rule(r, 0), LEAST, NONE, -1, 5, MOST);
        checks.all(BAD, "what", what -> x.rule(0, what), LEAST, -1, 5, MOST);
        int[][] due = {
            {10, 3, 5, 0, NONE}, {20, 4, 8, 0, NONE}, {6, 2, 3, 0, NONE}, {15, 5, 48, 1, 0}, {4, 2, 1, 1, 0},
        };
        for (int r = 0; r < 5; r++) {
            for (int what = 0; what < 5; what++) {
                checks.due("rule " + r + " " + what, x.rule(r, what), due[r][what]);
            }
        }
        checks.due("of a lesser CAMP", Checks.told("f10;h0;s1,1,1;").rule(1, 0), BAD);
    }

    private void whoHas() {
        JingleLaws x = Checks.told(ALL_KINDS);
        for (int h = 0; h < 4; h++) {
            x.play(h, 0);
        }
        checks.due("the HAND without STRENGTH is not among them", x.rule(0, 3), 11);
        x.hours(2);
        checks.due("HAND 2 has STRENGTH now", x.rule(0, 3), 15);
        checks.due("HAND 2 has the lost one", x.rule(3, 4), 2);
        checks.due("by HAND 2", x.rule(3, 3), 4);
        checks.due("the song has none", x.rule(0, 4), NONE);
        JingleLaws y = Checks.told("f10;h0;l1,1,1;");
        checks.due("has it without STRENGTH", y.rule(0, 4), 0);
        checks.due("not PLAYED without STRENGTH", y.rule(0, 3), 0);
        checks.due("STRENGTH 1 is enough", Checks.told("f10;h1;l1,1,1;").rule(0, 3), 1);
        JingleLaws silent = Checks.told("f10;h1;s0,1,1;l0,1,1;");
        silent.play(0, 0);
        checks.due("one that does not HOLD is PLAYED", silent.rule(0, 3), 1);
        checks.due("one that does not HOLD is PLAYED", silent.rule(1, 3), 1);
    }

    private void hands() {
        checks.says(16, "1 what it plays (NONE), 2 RULES (bits) that are PLAYED by it in this HOUR. BAD.");
        JingleLaws none = new JingleLaws();
        checks.all(BAD, "no CAMP", what -> none.hand(0, what), -1, 0, 2, 3);
        JingleLaws x = Checks.told(ALL_KINDS);
        checks.all(BAD, "HAND", h -> x.hand(h, 0), LEAST, NONE, -1, 4, MOST);
        checks.all(BAD, "what", what -> x.hand(0, what), LEAST, -1, 3, MOST);
        int[][] due = {{8, NONE, 24}, {12, NONE, 0}, {0, NONE, 0}, {20, NONE, 0}};
        for (int h = 0; h < 4; h++) {
            for (int what = 0; what < 3; what++) {
                checks.due("hand " + h + " " + what, x.hand(h, what), due[h][what]);
            }
        }
        x.play(0, 2);
        x.play(1, 3);
        x.play(2, 0);
        x.play(3, 0);
        checks.due("what it plays and what it has", x.hand(0, 2), 28);
        checks.due("what another has", x.hand(1, 2), 0);
        checks.due("it plays it yet", x.hand(1, 1), 3);
        checks.due("without STRENGTH", x.hand(2, 2), 0);
        checks.due("it plays it yet", x.hand(2, 1), 0);
        checks.due("with STRENGTH", x.hand(3, 2), 1);
        checks.due("of a lesser CAMP", Checks.told("f10;h0;s1,1,1;").hand(1, 0), BAD);
    }

    private void stands() {
        checks.says(17, "BAD; STATE: no CAMP (ahead of BAD).");
        JingleLaws none = new JingleLaws();
        checks.all(STATE, "no CAMP", none::stand, LEAST, -1, 0, 4, 5, MOST);
        JingleLaws x = Checks.told(ALL_KINDS);
        checks.all(BAD, "what", x::stand, LEAST, -1, 5, MOST);
        x.give(1, 0);
        int[] due = {29, 55, 8, 35, 30};
        for (int what = 0; what < 5; what++) {
            checks.due("stand " + what, x.stand(what), due[what]);
        }
    }

    /** The least and the most that a CAMP can have. */
    private void extremes() {
        JingleLaws least = Checks.told("f10;h0;s0,1,0;");
        int[] ofLeast = {0, 0, 63, 0, 10};
        JingleLaws most = Checks.told("f60;h20;h20;h20;h20;h20;s60,9,1;s60,9,2;s60,9,4;s60,9,8;s60,9,48;");
        int[] ofMost = {31, 63, 0, 300, 60};
        for (int what = 0; what < 5; what++) {
            checks.due("least " + what, least.stand(what), ofLeast[what]);
            checks.due("most " + what, most.stand(what), ofMost[what]);
        }
        checks.due("STRENGTH of all", most.count(5), 100);
        checks.due("STRENGTH of none", least.count(5), 0);
    }
}
