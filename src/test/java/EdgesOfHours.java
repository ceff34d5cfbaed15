/** Promise 10 and section 2 of the document: what an HOUR does, at its bounds. */
final class EdgesOfHours {
    private static final int BAD = Checks.BAD, STATE = Checks.STATE, FULL = Checks.FULL;
    private static final int LEAST = Checks.LEAST, MOST = Checks.MOST;

    private final Checks checks;

    EdgesOfHours(Checks checks) {
        this.checks = checks;
    }

    void run() {
        holds();
        playedWithStrength();
        whoHasLostOnes();
        whateverItPlays();
        asItBegins();
        twoOrThree();
        loudAtMost();
        songs();
        greatOnes();
        whims();
        lostOnes();
        hoops();
        nothingBelowNone();
        strengthLess();
        strengthMore();
        hourByHour();
        barred();
        hoursRefused();
        hoursFull();
    }

    private void dueBeats(JingleLaws x, int... beats) {
        for (int r = 0; r < beats.length; r++) {
            checks.due("BEAT of " + r + ", HOUR " + x.count(3), x.rule(r, 0), beats[r]);
        }
    }

    private void dueStrengths(JingleLaws x, int... strengths) {
        for (int h = 0; h < strengths.length; h++) {
            checks.due("STRENGTH of " + h + ", HOUR " + x.count(3), x.hand(h, 0), strengths[h]);
        }
    }

    private void holds() {
        checks.says(0, "A RULE HOLDS, if BEAT is above 0.");
        JingleLaws x = Checks.told("f10;h0;s1,1,1;s0,1,2;s10,1,4;");
        checks.due("1 and 10 do, 0 does not", x.stand(0), 5);
        checks.due("one more HOUR", x.hours(1), 4);
    }

    private void playedWithStrength() {
        checks.says(0, "by HANDS that play it and have STRENGTH as it begins");
        JingleLaws x = Checks.told("f60;h0;h1;h20;h1;s20,1,0;s20,1,0;");
        x.play(0, 0);
        x.play(1, 0);
        x.play(2, 0);
        checks.due("0 plays not, 1 and 20 do, one that plays none does not", x.rule(0, 3), 6);
        checks.due("by none", x.rule(1, 3), 0);
        checks.due("of the HAND with 0", x.hand(0, 2), 0);
        checks.due("of the HAND with 1", x.hand(1, 2), 1);
        x.hours(1);
        dueBeats(x, 24, 19);
        dueStrengths(x, 2, 0, 19, 3);
        checks.due("now the first plays, the second is spent", x.rule(0, 3), 5);
    }

    private void whoHasLostOnes() {
        checks.says(0, "the HAND that has all such is that of the HOUR by how many there are left over");
        for (int hands = 1; hands <= 5; hands++) {
            JingleLaws x = Checks.told("f60;" + "h20;".repeat(hands) + "s9,1,0;l9,1,0;o9,1,0;");
            // One HAND alone has STRENGTH for 10 HOURS, since there are two of them.
            for (int hour = 0; hour < 10; hour++) {
                checks.due(hands + " HANDS, HOUR " + hour, x.rule(1, 4), hour % hands);
                checks.due(hands + " HANDS, HOUR " + hour, x.rule(2, 4), hour % hands);
                checks.due(hands + " HANDS, HOUR " + hour + ", by it", x.rule(2, 3), 1 << hour % hands);
                x.hours(1);
            }
        }
    }

    private void whateverItPlays() {
        checks.says(0, "just by the HAND that has it, if that has STRENGTH, whatever it plays");
        JingleLaws x = Checks.told("f60;h5;h5;l20,3,0;s20,1,0;");
        x.play(0, 1);
        x.play(1, 0);
        checks.due("by the one that has it, though it plays another", x.rule(0, 3), 1);
        checks.due("not by the one that plays it", x.hand(1, 2), 0);
        checks.due("both by one", x.hand(0, 2), 3);
        x.hours(1);
        dueBeats(x, 22, 21);
        dueStrengths(x, 3, 7);
        JingleLaws y = Checks.told("f60;h0;h5;l20,3,0;");
        y.play(1, 0);
        checks.due("has it, without STRENGTH", y.rule(0, 4), 0);
        checks.due("by none", y.rule(0, 3), 0);
        y.hours(1);
        dueBeats(y, 17);
        dueStrengths(y, 2, 7);
    }

    private void asItBegins() {
        checks.says(0, "An HOUR, all by how all is as it begins");
        // HAND 0 has none as it begins, and 2 behind it; HAND 1 is at 10 just as it begins.
        JingleLaws x = Checks.told("f60;h0;h10;s20,1,0;s20,1,0;l20,5,0;");
        x.play(0, 0);
        x.play(1, 1);
        x.hours(1);
        dueBeats(x, 19, 22, 15);
        dueStrengths(x, 2, 9);
        x.hours(1);
        dueBeats(x, 20, 23, 17);
        dueStrengths(x, 1, 7);
    }

    private void twoOrThree() {
        checks.says(0, "2 more for each HAND by which it is PLAYED, 3 if that has STRENGTH 10 or more");
        int[] strengths = {0, 1, 2, 9, 10, 11, 19, 20};
        int[] more = {0, 2, 2, 2, 3, 3, 3, 3};
        for (int k = 0; k < strengths.length; k++) {
            JingleLaws x = Checks.told("f60;h" + strengths[k] + ";s20,1,0;");
            x.play(0, 0);
            x.hours(1);
            checks.due("STRENGTH " + strengths[k], x.rule(0, 0), 19 + more[k]);
        }
        JingleLaws x = Checks.told("f60;h9;h10;h1;h20;h0;s20,1,0;");
        for (int h = 0; h < 5; h++) {
            x.play(h, 0);
        }
        x.hours(1);
        checks.due("all together", x.rule(0, 0), 29);
    }

    private void loudAtMost() {
        checks.says(0, "LOUD at most; then it is less");
        for (int beat = 26; beat <= 30; beat++) {
            JingleLaws x = Checks.told("f30;h20;s" + beat + ",4,0;l" + beat + ",4,0;");
            x.play(0, 0);
            x.hours(1);
            dueBeats(x, beat <= 27 ? beat - 1 : 26, beat <= 27 ? beat + 3 : 30);
        }
        JingleLaws least = Checks.told("f10;h20;h20;h20;h20;h20;s0,9,0;");
        JingleLaws most = Checks.told("f60;h20;h20;h20;h20;h20;s50,9,0;");
        for (int h = 0; h < 5; h++) {
            least.play(h, 0);
            most.play(h, 0);
        }
        least.hours(1);
        most.hours(1);
        dueBeats(least, 1);
        dueBeats(most, 51);
    }

    private void songs() {
        checks.says(0, "a song by LOSS");
        JingleLaws x = Checks.told("f60;h1;s20,1,0;s20,9,0;s20,9,0;");
        x.play(0, 2);
        x.hours(1);
        dueBeats(x, 19, 11, 13);
    }

    private void greatOnes() {
        checks.says(0, "a great one by half of that (cut)");
        JingleLaws x = Checks.told("f60;h1;g20,1,0;g20,2,0;g20,3,0;g20,8,0;g20,9,0;");
        x.play(0, 4);
        x.hours(1);
        dueBeats(x, 20, 19, 19, 16, 18);
    }

    private void whims() {
        checks.says(0, "a whim by LOSS, twice that if it is not PLAYED");
        JingleLaws x = Checks.told("f60;h1;h0;w30,1,0;w30,9,0;w30,9,0;w18,9,0;w19,9,0;");
        x.play(0, 1);
        x.play(1, 2);
        x.hours(1);
        dueBeats(x, 28, 23, 12, 0, 1);
    }

    private void lostOnes() {
        checks.says(0, "one whose words are lost by LOSS, if it is not PLAYED, else not");
        JingleLaws x = Checks.told("f60;h0;l20,9,0;l9,9,0;l10,9,0;l0,9,0;");
        x.hours(1);
        dueBeats(x, 11, 0, 1, 0);
        dueStrengths(x, 2);
        x.hours(1);
        dueBeats(x, 13, 2, 3, 2);
        dueStrengths(x, 0);
    }

    private void hoops() {
        checks.says(0, "a hoop so, but 1 at least, if it did HOLD as the HOUR began");
        JingleLaws x = Checks.told("f60;h0;o0,9,0;o1,9,0;o9,9,0;o10,9,0;o11,9,0;");
        x.hours(1);
        dueBeats(x, 0, 1, 1, 1, 2);
        // Now its HAND has STRENGTH: one that did not HOLD is given life by it.
        x.hours(1);
        dueBeats(x, 2, 3, 3, 3, 4);
        JingleLaws silent = Checks.told("f60;h0;h0;o0,1,0;o1,1,0;l1,1,0;");
        silent.hours(1);
        dueBeats(silent, 0, 1, 0);
        checks.due("a hoop that keeps 1 HOLDS", silent.stand(0), 2);
        JingleLaws given = Checks.told("f60;h0;o5,9,0;");
        given.give(0, 0);
        given.hours(1);
        dueBeats(given, 0);
    }

    private void nothingBelowNone() {
        checks.says(0, "all 0 at least");
        JingleLaws x = Checks.told("f60;h0;s3,9,0;g3,9,0;w3,9,0;l3,9,0;s0,9,0;");
        x.hours(1);
        dueBeats(x, 0, 0, 0, 0, 0);
        JingleLaws y = Checks.told("f60;h1;w3,9,0;");
        y.play(0, 0);
        y.hours(1);
        dueBeats(y, 0);
        checks.due("all together", y.count(4), 0);
    }

    private void strengthLess() {
        checks.says(0, "STRENGTH of a HAND by which any RULE is PLAYED is 1 less for each of these (0 at least)");
        int[] strengths = {1, 2, 3, 4, 5, 20};
        int[] of3 = {0, 0, 0, 1, 2, 17};
        for (int k = 0; k < strengths.length; k++) {
            JingleLaws x = Checks.told("f60;h" + strengths[k] + ";s20,1,0;l20,1,0;o20,1,0;");
            x.play(0, 0);
            x.hours(1);
            checks.due("three of " + strengths[k], x.hand(0, 0), of3[k]);
        }
        JingleLaws one = Checks.told("f60;h1;h2;s20,1,0;");
        one.play(0, 0);
        one.play(1, 0);
        one.hours(1);
        dueStrengths(one, 0, 1);
        JingleLaws five = Checks.told("f60;h20;l9,1,0;l9,1,0;o9,1,0;o9,1,0;l0,1,0;");
        five.play(0, 4);
        five.hours(1);
        dueStrengths(five, 15);
    }

    private void strengthMore() {
        checks.says(0, "of one by which none is 2 more (20 at most)");
        JingleLaws x = Checks.told("f60;h0;h17;h18;h19;h20;s20,1,0;");
        x.play(0, 0);
        x.hours(1);
        dueStrengths(x, 2, 19, 20, 20, 20);
    }

    private void hourByHour() {
        checks.says(0, "HOUR is 1 more.");
        JingleLaws x = Checks.told("f60;h0;s60,1,0;");
        checks.due("at first", x.count(3), 0);
        x.hours(1);
        checks.due("one", x.count(3), 1);
        x.hours(24);
        checks.due("24 more", x.count(3), 25);
        checks.due("24 at once are 24 one by one", x.rule(0, 0), 35);
    }

    private void barred() {
        checks.says(0, "BARRED are the THINGS that any RULE that HOLDS BARS.");
        JingleLaws x = Checks.told("f60;h0;s1,1,1;s0,1,2;s2,1,5;s0,1,63;s1,1,32;");
        checks.due("BARRED", x.stand(1), 37);
        checks.due("FREE", x.stand(2), 26);
        x.hours(1);
        checks.due("BARRED", x.stand(1), 5);
        x.hours(1);
        checks.due("nothing", x.stand(1), 0);
        checks.due("all is FREE", x.stand(2), 63);
        x.give(3, 1);
        checks.due("all", x.stand(1), 63);
        checks.due("nothing is FREE", x.stand(2), 0);
    }

    private void hoursRefused() {
        checks.says(10, "n HOURS (1 to 24), an ACT each: which HOLD then (bits). BAD; STATE: no CAMP (ahead of BAD)");
        JingleLaws none = new JingleLaws();
        checks.all(STATE, "no CAMP", none::hours, LEAST, -1, 0, 1, 24, 25, MOST);
        JingleLaws x = Checks.told("f60;h0;s60,1,0;s2,1,0;");
        checks.all(BAD, "hours", x::hours, LEAST, -1, 0, 25, MOST);
        checks.due("none passed", x.count(3), 0);
        checks.due("no ACT", x.count(6), 0);
        checks.due("1", x.hours(1), 3);
        checks.due("an ACT", x.count(6), 1);
        checks.due("24", x.hours(24), 1);
        checks.due("HOUR", x.count(3), 25);
        checks.due("an ACT each", x.count(6), 24);
        checks.due("one undone", x.undo(), 23);
        checks.due("HOUR", x.count(3), 24);
    }

    /** An object whose HOUR is the told one. */
    static JingleLaws atHour(int hour) {
        JingleLaws x = Checks.told("f20;h2;h2;s9,1,1;o9,2,2;");
        for (int left = hour; left > 0; left -= 24) {
            x.hours(Math.min(24, left));
        }
        return x;
    }

    private void hoursFull() {
        checks.says(10, "FULL: HOUR would be above 999.");
        JingleLaws x = atHour(975);
        checks.due("24 up to 999", x.hours(24), 2);
        checks.due("HOUR", x.count(3), 999);
        checks.all(FULL, "at 999", x::hours, 1, 2, 24);
        checks.all(BAD, "BAD ahead of FULL", x::hours, LEAST, 0, 25, MOST);
        checks.due("undo", x.undo(), 23);
        checks.all(FULL, "at 998", x::hours, 2, 24);
        checks.due("one up to 999", x.hours(1), 2);
        checks.due("HOUR", x.count(3), 999);
        JingleLaws y = atHour(976);
        int beat = y.rule(1, 0);
        checks.due("24 up to 1000", y.hours(24), FULL);
        checks.due("not one of them passed", y.count(3), 976);
        checks.due("not one of them passed", y.rule(1, 0), beat);
        checks.due("23 up to 999", y.hours(23), 2);
        checks.due("there is still what is ahead", y.ahead(0, 60), 0);
        checks.due("the HAND of HOUR 999", y.rule(1, 4), 1);
    }
}
