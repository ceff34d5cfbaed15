/** Promises 31 and 32: SLEEP, NIGHTS. */
final class EdgesOfChance {
    private static final int NONE = Checks.NONE, BAD = Checks.BAD, STATE = Checks.STATE;
    private static final int LEAST = Checks.LEAST, MOST = Checks.MOST;

    private final Checks checks;

    EdgesOfChance(Checks checks) {
        this.checks = checks;
    }

    void run() {
        sleepRefused();
        sleepSure();
        sleepInLowestTerms();
        sleepNow();
        drawnRefused();
        drawnAtBounds();
        drawnRest();
        drawnWhat();
        drawnAheadOfHour();
    }

    private void dueFraction(String call, JingleLaws x, int n, int p, long above, long below) {
        checks.due(call + ": above", x.sleep(0, n, p, 0), above);
        checks.due(call + ": below", x.sleep(0, n, p, 1), below);
    }

    private void sleepRefused() {
        checks.says(31, "SLEEP: above (what = 0), below (1). BAD.");
        JingleLaws none = new JingleLaws();
        checks.all(BAD, "no CAMP", what -> none.sleep(0, 0, 0, what), -1, 0, 1, 2);
        JingleLaws x = Checks.told("f60;h1;s60,1,1;s0,1,1;");
        checks.all(BAD, "RULE", r -> x.sleep(r, 0, 0, 0), LEAST, -1, 2, MOST);
        checks.all(BAD, "n", n -> x.sleep(0, n, 0, 0), LEAST, -1, 61, MOST);
        checks.all(BAD, "p", p -> x.sleep(0, 0, p, 0), LEAST, -1, 11, MOST);
        checks.all(BAD, "what", what -> x.sleep(0, 0, 0, what), LEAST, -1, 2, MOST);
        checks.all(1, "above", n -> x.sleep(0, n, 5, 0), 0, 1, 59);
        checks.due("60", x.sleep(0, 60, 5, 0), 0);
        checks.due("RULE 1", x.sleep(1, 0, 5, 0), 0);
    }

    private void sleepSure() {
        checks.says(0, "SLEEP by p of 10 (0 to 10)");
        JingleLaws x = Checks.told("f20;h20;h20;s1,1,1;");
        x.play(0, 0);
        x.play(1, 0);
        dueFraction("none sleeps", x, 1, 0, 1, 1);
        dueFraction("1 of 10", x, 1, 1, 99, 100);
        dueFraction("5 of 10", x, 1, 5, 3, 4);
        dueFraction("9 of 10", x, 1, 9, 19, 100);
        dueFraction("all sleep", x, 1, 10, 0, 1);
        x.play(0, NONE);
        dueFraction("1 of 10, one HAND counts", x, 1, 1, 9, 10);
        dueFraction("9 of 10, one HAND counts", x, 1, 9, 1, 10);
    }

    private void sleepInLowestTerms() {
        checks.says(0, "fractions, told as two numbers in lowest terms (0 is 0 by 1)");
        JingleLaws x = Checks.told("f10;h1;h1;h1;h1;h1;s0,9,1;");
        for (int h = 0; h < 5; h++) {
            x.play(h, 0);
        }
        // All five must be awake: 10 less 9.
        dueFraction("0 of 10", x, 1, 0, 1, 1);
        dueFraction("1 of 10", x, 1, 1, 59049, 100000);
        dueFraction("2 of 10", x, 1, 2, 1024, 3125);
        dueFraction("5 of 10", x, 1, 5, 1, 32);
        dueFraction("9 of 10", x, 1, 9, 1, 100000);
        dueFraction("10 of 10", x, 1, 10, 0, 1);
        // Who was awake has STRENGTH in the HOURS 0, 2, 3, 5 .. 59, who slept in 1, 2, 4, 5 .. 59.
        dueFraction("behind 59 HOURS, if all slept", x, 59, 5, 1, 32);
        dueFraction("behind 60 HOURS", x, 60, 5, 1, 1);
        dueFraction("never", Checks.told("f10;h1;s0,9,1;"), 60, 5, 0, 1);
        x.give(0, 10);
        dueFraction("ever", x, 1, 5, 1, 1);
        // LOUD at most: 9 and 2 is 10, less 9.
        x.give(0, 9);
        dueFraction("one awake is enough", x, 1, 5, 31, 32);
    }

    private void sleepNow() {
        checks.says(0, "each HAND falls asleep (STRENGTH 0) now in p of 10 cases, apart: how likely a "
            + "RULE HOLDS behind n HOURS (0 to 60)");
        JingleLaws x = Checks.told("f20;h20;s1,1,1;");
        x.play(0, 0);
        dueFraction("0 HOURS: it HOLDS now", x, 0, 10, 1, 1);
        dueFraction("1 HOUR", x, 1, 10, 0, 1);
        // It has STRENGTH 2 behind an HOUR, and plays again.
        dueFraction("2 HOURS", x, 2, 10, 1, 1);
        x.give(0, 0);
        dueFraction("0 HOURS: it does not HOLD now", x, 0, 0, 0, 1);
        dueFraction("0 HOURS: it does not HOLD now", x, 0, 5, 0, 1);
        dueFraction("1 HOUR", x, 1, 3, 7, 10);
        checks.due("nothing changes", x.hand(0, 0), 20);
        // The HAND that has a lost one falls asleep, too; one that sleeps already does nothing by it.
        dueFraction("a lost one", Checks.told("f20;h5;l5,5,1;"), 1, 4, 3, 5);
        dueFraction("a lost one", Checks.told("f20;h0;l5,5,1;"), 1, 4, 0, 1);
    }

    private void drawnRefused() {
        checks.says(32, "NIGHTS by a SEED (1 to 999999): which (what = 0), BEAT (1). BAD; STATE: no CAMP "
            + "(ahead of BAD).");
        JingleLaws none = new JingleLaws();
        checks.all(STATE, "no CAMP", n -> none.drawn(n, 1, 0), LEAST, -1, 0, 60, 61, MOST);
        checks.all(STATE, "no CAMP", seed -> none.drawn(0, seed, 0), LEAST, 0, 1, 999999, 1000000, MOST);
        checks.all(STATE, "no CAMP", what -> none.drawn(0, 1, what), LEAST, -1, 0, 1, 2, MOST);
        JingleLaws x = Checks.told("f60;h0;s60,1,1;s0,1,1;");
        checks.all(BAD, "n", n -> x.drawn(n, 1, 0), LEAST, -1, 61, MOST);
        checks.all(BAD, "SEED", seed -> x.drawn(0, seed, 0), LEAST, -1, 0, 1000000, MOST);
        checks.all(BAD, "what", what -> x.drawn(0, 1, what), LEAST, -1, 2, MOST);
    }

    private void drawnAtBounds() {
        checks.says(0, "NIGHTS of n HOURS (0 to 60) by a SEED (X at first)");
        JingleLaws x = Checks.told("f60;h0;s60,1,1;s0,1,1;");
        checks.all(1, "no HOUR: as it is", seed -> x.drawn(0, seed, 0), 1, 5, 15, 999999);
        checks.all(60, "no HOUR: as it is", seed -> x.drawn(0, seed, 1), 1, 5, 15, 999999);
        // Nothing can be given out, none has STRENGTH to play in the first HOUR.
        JingleLaws one = Checks.told("f60;h0;s60,1,1;");
        checks.all(59, "an HOUR", seed -> one.drawn(1, seed, 1), 1, 999999);
        dueByHand(1, 60);
        dueByHand(999999, 60);
    }

    /** The same nights by calls. */
    private void dueByHand(int seed, int n) {
        String text = "f30;h8;h12;h0;h20;s10,3,5;g20,4,8;w6,2,3;l15,5,48;o4,2,1;";
        JingleLaws x = Checks.told(text);
        JingleLaws y = Checks.told(text);
        long drawn = seed;
        for (int hour = 1; hour <= n; hour++) {
            drawn = drawn * 16807 % 2147483647;
            if (drawn % 3 == 0) {
                y.play((int) (drawn % 4), (int) (drawn % 5));
            } else if (drawn % 3 == 1) {
                y.play((int) (drawn % 4), NONE);
            }
            if (drawn % 5 == 0 && y.rule(0, 0) == 0) {
                y.give(0, 9);
            }
            y.hours(1);
            checks.due("SEED " + seed + ", which behind " + hour, x.drawn(hour, seed, 0), y.stand(0));
            checks.due("SEED " + seed + ", BEAT behind " + hour, x.drawn(hour, seed, 1), y.stand(3));
        }
        checks.due("nothing changes", x.count(3), 0);
    }

    private void drawnRest() {
        checks.says(0, "X becomes the rest of (X times 16807) by 2147483647");
        // 127773 times 16807 is 2147480811, which leaves 0 by 3; one more is beyond, and leaves 13971, which does, too.
        JingleLaws x = Checks.told("f20;h10;s5,4,1;");
        checks.due("127773", x.drawn(1, 127773, 1), 4);
        checks.due("127774", x.drawn(1, 127774, 1), 4);
        // 127775 leaves 30778, which leaves 1 by 3: none is played. 999999 leaves 1774597664, which leaves 2.
        x.play(0, 0);
        checks.due("127775", x.drawn(1, 127775, 1), 1);
        checks.due("999999", x.drawn(1, 999999, 1), 4);
    }

    private void drawnWhat() {
        checks.says(0, "plays the RULE that is the rest of X by how many there are, if X by 3 leaves 0, "
            + "none, if it leaves 1");
        // Small SEEDS: X is 16807 times it, which leaves by 2 and by 3 what the SEED leaves, by 5 twice that.
        JingleLaws x = Checks.told("f20;h10;h3;s5,4,1;w6,2,2;");
        checks.due("6: HAND 0 plays RULE 0", x.drawn(1, 6, 1), 4 + 2);
        checks.due("3: HAND 1 plays RULE 1", x.drawn(1, 3, 1), 1 + 6);
        checks.due("1: HAND 1 plays none", x.drawn(1, 1, 1), 1 + 2);
        checks.due("2: nothing is drawn", x.drawn(1, 2, 1), 1 + 2);
        x.play(0, 1);
        x.play(1, 0);
        checks.due("6: HAND 0 plays RULE 0", x.drawn(1, 6, 1), 6 + 2);
        checks.due("1: HAND 1 plays none", x.drawn(1, 1, 1), 1 + 7);
        checks.due("4: HAND 0 plays none", x.drawn(1, 4, 1), 3 + 2);
        checks.due("2: nothing is drawn", x.drawn(1, 2, 1), 3 + 7);
        checks.due("nothing changes", x.hand(0, 1), 1);
    }

    private void drawnAheadOfHour() {
        checks.says(0, "is given out with BEAT 9, if it does not HOLD and X by 5 leaves 0; then the HOUR");
        JingleLaws x = Checks.told("f20;h10;h3;s0,4,1;w0,2,2;");
        checks.due("10: RULE 0 is given out", x.drawn(1, 10, 1), 5);
        checks.due("10: none is played by HAND 0", x.drawn(1, 10, 0), 1);
        checks.due("5: RULE 1 is given out", x.drawn(1, 5, 1), 5);
        checks.due("5: RULE 1 is given out", x.drawn(1, 5, 0), 2);
        checks.due("15: HAND 1 plays it, too", x.drawn(1, 15, 1), 9);
        checks.due("30: HAND 0 plays it, too", x.drawn(1, 30, 1), 8);
        checks.due("4: it is not given out", x.drawn(1, 4, 1), 0);
        x.give(0, 1);
        checks.due("10: RULE 0 HOLDS", x.drawn(1, 10, 1), 0);
        JingleLaws least = Checks.told("f10;h1;s0,1,1;");
        checks.due("LOUD 10 has room for 9", least.drawn(1, 5, 1), 8);
    }
}
