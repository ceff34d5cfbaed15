/** Promises 23 to 28: HANDS, ROTA, COVER, FALL, TURNS, SOUP. */
final class EdgesOfSearches {
    private static final int NONE = Checks.NONE, BAD = Checks.BAD, STATE = Checks.STATE;
    private static final int LEAST = Checks.LEAST, MOST = Checks.MOST;

    private final Checks checks;

    EdgesOfSearches(Checks checks) {
        this.checks = checks;
    }

    void run() {
        handsRefused();
        handsFewest();
        handsAsTheyDo();
        rotaRefused();
        rotaMost();
        rotaFirst();
        coverRefused();
        coverFewest();
        falls();
        turnsRefused();
        turnsOfTwo();
        turnsDoNothing();
        shareRefused();
        shares();
    }

    private void dueFewest(String call, JingleLaws x, int rule, int n, int set) {
        checks.due(call + ": how many", x.hands(rule, n, 0), set == NONE ? NONE : Integer.bitCount(set));
        checks.due(call + ": which", x.hands(rule, n, 1), set);
    }

    private void handsRefused() {
        checks.says(0, "HANDS for a RULE, n HOURS (1 to 30)");
        checks.says(23, "HANDS: how many (what = 0), which (1); NONE. BAD.");
        JingleLaws none = new JingleLaws();
        checks.all(BAD, "no CAMP", n -> none.hands(0, n, 0), 0, 1, 30, 31);
        JingleLaws x = Checks.told("f60;h0;s31,1,1;s30,1,1;s1,1,1;");
        checks.all(BAD, "RULE", r -> x.hands(r, 1, 0), LEAST, -1, 3, MOST);
        checks.all(BAD, "n", n -> x.hands(0, n, 0), LEAST, -1, 0, 31, MOST);
        checks.all(BAD, "what", what -> x.hands(0, 1, what), LEAST, -1, 2, MOST);
        dueFewest("30 HOURS by none", x, 0, 30, 0);
        dueFewest("30 HOURS by one", x, 1, 30, 1);
        dueFewest("1 HOUR, without STRENGTH", x, 2, 1, NONE);
        checks.due("nothing changes", x.hand(0, 1), NONE);
    }

    private void handsFewest() {
        checks.says(0, "by which it HOLDS behind them: how many; which (bits), of several the least; NONE.");
        JingleLaws five = Checks.told("f10;h1;h1;h1;h1;h1;s0,9,0;");
        dueFewest("all five", five, 0, 1, 31);
        five.give(0, 1);
        dueFewest("10 with all, LOUD at most", five, 0, 1, 31);
        five.give(0, 2);
        dueFewest("four, the least", five, 0, 1, 15);
        five.give(0, 8);
        dueFewest("one, the least", five, 0, 1, 1);
        five.give(0, 10);
        dueFewest("none is needed", five, 0, 1, 0);
        JingleLaws four = Checks.told("f10;h1;h1;h1;h1;s0,9,0;");
        dueFewest("four are too few", four, 0, 1, NONE);
        JingleLaws weak = Checks.told("f10;h0;h0;h1;h1;s5,6,0;");
        dueFewest("those without STRENGTH do not help", weak, 0, 1, 4);
        // HANDS 0 and 1 would do (bits 3), too; one with 10 does alone (bits 4).
        JingleLaws strong = Checks.told("f20;h1;h1;h10;s5,7,0;");
        dueFewest("fewer, though it is not the least", strong, 0, 1, 4);
        // It HOLDS between, but not behind all HOURS.
        JingleLaws between = Checks.told("f20;h1;s5,4,0;");
        dueFewest("behind 1", between, 0, 1, 0);
        dueFewest("behind 2", between, 0, 2, NONE);
    }

    private void handsAsTheyDo() {
        checks.says(0, "(the others as they do, but those who play it now and are not among them none)");
        JingleLaws x = Checks.told("f20;h20;h20;s1,1,0;");
        x.play(0, 0);
        dueFewest("it plays it now, and must", x, 0, 1, 1);
        x.play(1, 0);
        dueFewest("one is enough, the other one plays none", x, 0, 1, 1);
        x.give(0, 2);
        dueFewest("it plays it now, and need not", x, 0, 1, 0);
        checks.due("nothing changes", x.hand(1, 1), 0);
        // The lost one HOLDS behind 2 HOURS, if HAND 1 has STRENGTH in HOUR 1: it must leave the song that it plays.
        JingleLaws y = Checks.told("f20;h0;h1;s9,1,0;l5,5,0;");
        dueFewest("as they do: none", y, 1, 2, 0);
        y.play(1, 0);
        dueFewest("as they do: HAND 1 the song", y, 1, 2, 2);
        y.play(1, 1);
        dueFewest("HAND 1 it, so none", y, 1, 2, 0);
    }

    private void rotaRefused() {
        checks.says(0, "ROTA for n HOURS (1 to 12)");
        checks.says(24, "BAD: no such HAND, hand below -1, too; STATE: no CAMP (ahead of BAD).");
        JingleLaws none = new JingleLaws();
        checks.all(STATE, "no CAMP", n -> none.rota(n, -1), LEAST, 0, 1, 12, 13, MOST);
        checks.all(STATE, "no CAMP", h -> none.rota(1, h), LEAST, -2, -1, 0, MOST);
        JingleLaws x = Checks.told("f20;h0;h1;s12,1,0;s13,1,0;");
        checks.all(BAD, "n", n -> x.rota(n, -1), LEAST, -1, 0, 13, MOST);
        checks.all(BAD, "HAND", h -> x.rota(1, h), LEAST, NONE, -2, 2, MOST);
        checks.due("1", x.rota(1, -1), 2);
        checks.due("12", x.rota(12, -1), 2);
        // Each HAND plays in two of three HOURS, 16 in all: 16 and 17 are left; the other way round it is the same.
        checks.due("12, HAND 0", x.rota(12, 0), 0);
        checks.due("12, HAND 1", x.rota(12, 1), 1);
    }

    private void dueRota(String call, JingleLaws x, int n, int holding, int... plays) {
        checks.due(call + ": how many", x.rota(n, -1), holding);
        for (int h = 0; h < plays.length; h++) {
            checks.due(call + ": HAND " + h, x.rota(n, h), plays[h]);
        }
    }

    private void rotaMost() {
        checks.says(0, "by which most RULES HOLD behind them, of several that by which most BEAT there "
            + "is, all together");
        // One HAND: the great one would gain as much, but just the whim needs it.
        dueRota("most RULES", Checks.told("f60;h20;g50,9,0;w3,2,0;"), 2, 2, 1);
        // Both HOLD either way; the song is at LOUD already, the other one gains 2.
        dueRota("most BEAT", Checks.told("f20;h1;s20,1,0;s15,1,0;"), 1, 2, 1);
        // A whim loses half, if it is PLAYED: 2 and 5 more.
        dueRota("most BEAT", Checks.told("f60;h1;s50,5,0;w50,5,0;"), 1, 2, 1);
        JingleLaws x = Checks.told("f20;h1;s20,1,0;s15,1,0;");
        x.play(0, 0);
        dueRota("whatever it plays now", x, 1, 2, 1);
        checks.due("nothing changes", x.hand(0, 1), 0);
        // To play would take the STRENGTH by which HAND 1 keeps the lost one in HOUR 1.
        dueRota("the lost one", Checks.told("f20;h0;h1;s9,1,0;l5,5,0;"), 2, 2, 0, NONE);
        dueRota("the lost one falls silent", Checks.told("f20;h0;l5,5,0;"), 1, 0, NONE);
        dueRota("no RULE can HOLD", Checks.told("f10;h1;h1;s0,9,0;w0,9,0;"), 1, 0, NONE, NONE);
    }

    private void rotaFirst() {
        checks.says(0, "of several the first (none ahead of any, then by numbers, HAND by HAND)");
        // One HAND is enough for LOUD: none for HAND 0 is ahead of any.
        dueRota("none ahead of any", Checks.told("f10;h1;h1;s9,1,0;"), 1, 1, NONE, 0);
        dueRota("without STRENGTH", Checks.told("f10;h0;h0;s9,1,0;"), 1, 1, NONE, NONE);
        dueRota("those whose words are lost", Checks.told("f20;h9;h9;l9,1,0;o9,1,0;"), 12, 2, NONE, NONE);
        dueRota("by numbers", Checks.told("f20;h1;s9,1,0;s9,1,0;s9,1,0;"), 1, 3, 0);
        dueRota("HAND by HAND", Checks.told("f20;h1;h1;s9,1,0;s9,1,0;"), 1, 2, 0, 0);
        // Each must be PLAYED, either way: HAND 0 has the lesser number.
        dueRota("HAND by HAND", Checks.told("f20;h1;h1;s2,2,0;s2,2,0;"), 1, 2, 0, 1);
        dueRota("each one", Checks.told("f60;h9;h9;h9;h9;h9;s9,9,0;s9,9,0;s9,9,0;s9,9,0;s9,9,0;"), 1, 5, 0, 1, 2, 3, 4);
        dueRota("all one", Checks.told("f60;h9;h9;h9;h9;h9;l1,1,0;l1,1,0;l1,1,0;l1,1,0;s30,9,0;"), 1, 5, 4, 4, 4, 4, 4);
    }

    private void coverRefused() {
        checks.says(25, "COVER (things 0 to 63): how many (what = 0), which (1); NONE. BAD; STATE: no "
            + "CAMP (ahead of BAD).");
        JingleLaws none = new JingleLaws();
        checks.all(STATE, "no CAMP", things -> none.cover(things, 0), LEAST, -1, 0, 63, 64, MOST);
        checks.all(STATE, "no CAMP", what -> none.cover(0, what), LEAST, -1, 0, 1, 2, MOST);
        JingleLaws x = Checks.told("f20;h1;s1,1,63;");
        checks.all(BAD, "things", things -> x.cover(things, 0), LEAST, -1, 64, MOST);
        checks.all(BAD, "what", what -> x.cover(0, what), LEAST, -1, 2, MOST);
        checks.due("0", x.cover(0, 0), 0);
        checks.due("0", x.cover(0, 1), 0);
        checks.due("63", x.cover(63, 0), 1);
        checks.due("63", x.cover(63, 1), 1);
    }

    private void dueCover(String call, JingleLaws x, int things, int set) {
        checks.due(call + ": how many", x.cover(things, 0), set == NONE ? NONE : Integer.bitCount(set));
        checks.due(call + ": which", x.cover(things, 1), set);
    }

    private void coverFewest() {
        checks.says(0, "the fewest RULES that HOLD, which BAR all of them: how many; which (bits), of "
            + "several the least; NONE.");
        JingleLaws x = Checks.told("f20;h1;s1,1,1;s1,1,2;s1,1,3;s0,1,63;s1,1,7;");
        dueCover("nothing", x, 0, 0);
        dueCover("one", x, 1, 1);
        dueCover("one is fewer, the least of two", x, 3, 4);
        dueCover("the last", x, 4, 16);
        dueCover("the one that would does not HOLD", x, 8, NONE);
        dueCover("some are barred, not all", x, 63, NONE);
        x.give(3, 1);
        dueCover("now it HOLDS", x, 63, 8);
        dueCover("now it is the least", x, 7, 8);
        JingleLaws five = Checks.told("f20;h1;s1,1,1;s1,1,2;s1,1,4;s1,1,8;s1,1,48;");
        dueCover("all five", five, 63, 31);
        dueCover("half of what it bars", five, 16, 16);
        five.hours(1);
        dueCover("none HOLDS", five, 1, NONE);
        dueCover("none HOLDS, nothing is told", five, 0, 0);
    }

    private void falls() {
        checks.says(0, "FALL for a set of THINGS: RULES (bits) that HOLD and BAR any of them.");
        checks.says(26, "FALL (things 0 to 63). BAD; STATE: no CAMP (ahead of BAD).");
        JingleLaws none = new JingleLaws();
        checks.all(STATE, "no CAMP", none::fall, LEAST, -1, 0, 63, 64, MOST);
        JingleLaws x = Checks.told("f20;h1;s1,1,1;s2,1,34;s1,1,0;s0,1,63;s1,1,7;");
        checks.all(BAD, "things", x::fall, LEAST, -1, 64, MOST);
        checks.due("nothing", x.fall(0), 0);
        checks.due("0", x.fall(1), 17);
        checks.due("5", x.fall(32), 2);
        checks.due("3, 4", x.fall(24), 0);
        checks.due("all", x.fall(63), 19);
        x.hours(1);
        checks.due("all that HOLD yet", x.fall(63), 2);
    }

    private void turnsRefused() {
        checks.says(0, "TURNS of two, n in all (0 to 4), for a RULE, m HOURS (1 to 20)");
        checks.says(27, "TURNS. BAD.");
        JingleLaws none = new JingleLaws();
        checks.all(BAD, "no CAMP", n -> none.byTurns(0, n, 1), -1, 0, 4, 5);
        JingleLaws x = Checks.told("f60;h0;h0;s30,1,1;s20,1,1;");
        checks.all(BAD, "RULE", r -> x.byTurns(r, 0, 1), LEAST, -1, 2, MOST);
        checks.all(BAD, "n", n -> x.byTurns(0, n, 1), LEAST, -1, 5, MOST);
        checks.all(BAD, "m", m -> x.byTurns(0, 0, m), LEAST, -1, 0, 21, MOST);
        checks.due("m 1", x.byTurns(0, 0, 1), 29);
        checks.due("m 20", x.byTurns(0, 0, 20), 10);
        checks.due("m 20, the other one", x.byTurns(1, 0, 20), 0);
        checks.due("m 19, the other one", x.byTurns(1, 0, 19), 1);
    }

    private void turnsOfTwo() {
        checks.says(0, "the first wants it great, the second little: what comes of it.");
        // Even HANDS give 2, 3, 2, odd ones that play it 2 and 3; LOSS is 1.
        JingleLaws x = Checks.told("f60;h1;h1;h10;h10;h1;s30,1,1;");
        x.play(1, 0);
        x.play(3, 0);
        int[] due = {34, 37, 34, 36, 34};
        for (int n = 0; n <= 4; n++) {
            checks.due("n " + n, x.byTurns(0, n, 1), due[n]);
        }
        checks.due("nothing changes", x.hand(1, 1), 0);
        checks.due("nothing changes", x.hand(2, 1), NONE);
    }

    private void turnsDoNothing() {
        checks.says(0, "or does nothing, and so on, all now; then m HOURS: BEAT of it");
        // Just HAND 0: the second has none, the first has no more.
        JingleLaws one = Checks.told("f60;h5;s30,1,1;");
        int[] due = {29, 31, 31, 31, 31};
        for (int n = 0; n <= 4; n++) {
            checks.due("n " + n, one.byTurns(0, n, 1), due[n]);
        }
        // Who plays none already cannot be made to play less.
        JingleLaws two = Checks.told("f60;h5;h5;s30,1,1;");
        two.play(0, 0);
        for (int n = 0; n <= 4; n++) {
            checks.due("n " + n, two.byTurns(0, n, 1), 31);
        }
        // HAND 1 would have STRENGTH for the lost one in HOUR 1, if it left the song: the second does nothing.
        JingleLaws lost = Checks.told("f20;h9;h1;s5,1,1;l9,5,1;");
        lost.play(1, 0);
        checks.due("no turn", lost.byTurns(1, 0, 2), 6);
        checks.due("two turns", lost.byTurns(1, 2, 2), 6);
        lost.play(1, NONE);
        checks.due("it plays none", lost.byTurns(1, 0, 2), 13);
    }

    private void shareRefused() {
        checks.says(0, "SOUP of n (0 to 999)");
        checks.says(28, "SOUP. BAD.");
        JingleLaws none = new JingleLaws();
        checks.all(BAD, "no CAMP", n -> none.share(0, n), -1, 0, 999, 1000);
        JingleLaws x = Checks.told("f60;h19;h0;s30,1,1;");
        checks.all(BAD, "HAND", h -> x.share(h, 1), LEAST, -1, 2, MOST);
        checks.all(BAD, "n", n -> x.share(0, n), LEAST, -1, 1000, MOST);
        checks.due("0", x.share(0, 0), 0);
        checks.due("0", x.share(1, 0), 0);
        checks.due("999 by 21", x.share(0, 999), 48);
        checks.due("19980 by 21", x.share(1, 999), 951);
        checks.due("nothing changes", x.hand(1, 0), 0);
    }

    private void dueShares(String call, JingleLaws x, int n, int... due) {
        for (int h = 0; h < due.length; h++) {
            checks.due(call + ", " + n + ": HAND " + h, x.share(h, n), due[h]);
        }
    }

    private void shares() {
        checks.says(0, "(cut), what is over 1 each to the first ones that lack any: how many a HAND "
            + "gets (0, if none lacks any)");
        JingleLaws x = Checks.told("f60;h20;h19;h20;h19;h19;s30,1,1;");
        dueShares("one is over", x, 1, 0, 1, 0, 0, 0);
        dueShares("two are over", x, 2, 0, 1, 0, 1, 0);
        dueShares("none is over", x, 3, 0, 1, 0, 1, 1);
        dueShares("one is over", x, 4, 0, 2, 0, 1, 1);
        dueShares("none is over", x, 999, 0, 333, 0, 333, 333);
        JingleLaws full = Checks.told("f60;h20;h20;s30,1,1;");
        dueShares("none lacks any", full, 0, 0, 0);
        dueShares("none lacks any", full, 999, 0, 0);
        JingleLaws empty = Checks.told("f60;h0;h0;h0;h0;h0;s30,1,1;");
        dueShares("all lack all", empty, 999, 200, 200, 200, 200, 199);
        dueShares("all lack all", empty, 4, 1, 1, 1, 1, 0);
        JingleLaws one = Checks.told("f60;h19;s30,1,1;");
        dueShares("more than it lacks", one, 999, 999);
        // 3 by 17: 10 and 7; cut: 1 and 1; 1 is over.
        dueShares("cut", Checks.told("f60;h10;h13;s30,1,1;"), 3, 2, 1);
    }
}
