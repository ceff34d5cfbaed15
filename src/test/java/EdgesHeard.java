/** Promises 29 and 30: what fits what was heard. */
final class EdgesHeard {
    private static final int NONE = Checks.NONE, BAD = Checks.BAD, NULL = Checks.NULL, PLACE = Checks.PLACE;
    private static final int LEAST = Checks.LEAST, MOST = Checks.MOST;
    private static final int ANY_STRENGTH = (1 << 21) - 1;

    private final Checks checks;

    EdgesHeard(Checks checks) {
        this.checks = checks;
    }

    void run() {
        whoRefused();
        whoPlaces();
        kinds();
        losses();
        beats();
        itemsBeyond();
        feltRefused();
        feltPlaces();
        strengths();
        strengthsFew();
    }

    private void whoRefused() {
        checks.says(29, "BAD: RULE, which, ROW, n; NULL; PLACE.");
        JingleLaws none = new JingleLaws();
        none.row(0, 2, 12);
        checks.all(BAD, "no CAMP", n -> none.who(0, 0, 0, 0, n), 0, 1, 12, 13);
        JingleLaws x = Checks.told("f10;h0;s9,1,0;s0,1,0;");
        x.row(0, 2, 40);
        checks.all(BAD, "RULE", r -> x.who(r, 0, 0, 0, 1), LEAST, -1, 2, MOST);
        checks.all(BAD, "which", which -> x.who(0, which, 0, 0, 1), LEAST, -1, 4, MOST);
        checks.all(BAD, "ROW", row -> x.who(0, 0, row, 0, 1), LEAST, -1, 8, MOST);
        checks.all(BAD, "n", n -> x.who(0, 0, 0, 0, n), LEAST, -1, 0, 13, 40, MOST);
        checks.all(NULL, "missing", row -> x.who(0, 0, row, 0, 1), 1, 7);
        checks.due("BAD ahead of NULL", x.who(0, 0, 1, 0, 13), BAD);
        checks.due("BAD ahead of NULL", x.who(0, 4, 1, 0, 1), BAD);
        checks.due("BAD ahead of NULL", x.who(2, 0, 1, 0, 1), BAD);
        checks.due("BAD ahead of PLACE", x.who(0, 0, 0, -1, 0), BAD);
        checks.due("NULL ahead of PLACE", x.who(0, 0, 1, -1, 1), NULL);
        for (int which = 0; which < 4; which++) {
            int asked = which;
            checks.all(PLACE, "PLACE " + which, i -> x.who(0, asked, 0, i, 1), LEAST, -1, 40, MOST);
        }
    }

    private void whoPlaces() {
        checks.says(0, "A row tells BEAT of a RULE behind each of n HOURS (1 to 12) from now on.");
        JingleLaws x = Checks.told("f20;h0;s13,1,0;");
        x.row(0, 0, 13);
        for (int i = 0; i < 13; i++) {
            x.set(0, i, 13 - i);
        }
        checks.due("12 from 1 on", x.who(0, 3, 0, 1, 12), 13);
        checks.due("12 from 0 on", x.who(0, 3, 0, 0, 12), 14);
        checks.due("12 from 2 on", x.who(0, 3, 0, 2, 12), PLACE);
        checks.due("1 from 12 on", x.who(0, 3, 0, 12, 1), 2);
        checks.due("1 from 13 on", x.who(0, 3, 0, 13, 1), PLACE);
        checks.due("2 from 12 on", x.who(0, 3, 0, 12, 2), PLACE);
        checks.due("wraps around", x.who(0, 3, 0, MOST, 12), PLACE);
        checks.due("wraps around", x.who(0, 3, 0, MOST - 11, 12), PLACE);
        checks.due("less than 0, up to a place", x.who(0, 3, 0, -1, 2), PLACE);
        x.set(0, 12, 2);
        checks.due("the last of 12 is not so", x.who(0, 2, 0, 1, 12), 0);
        checks.due("the last of 12 is not so", x.who(0, 3, 0, 1, 12), NONE);
        checks.due("11 are so", x.who(0, 3, 0, 1, 11), 13);
        x.row(1, 2, 0);
        checks.due("a ROW of none", x.who(0, 0, 1, 0, 1), PLACE);
    }

    private void kinds() {
        checks.says(0, "KINDS (bits 1 to 5) of it");
        JingleLaws x = Checks.told("f10;h0;s0,1,0;");
        Checks.fill(x, 0, 0, 0, 9);
        checks.due("all", x.who(0, 0, 0, 0, 1), 62);
        // In HOUR 1 its HAND has STRENGTH 2: one whose words are lost would have BEAT 2.
        checks.due("those that stay silent", x.who(0, 0, 0, 0, 2), 14);
        checks.due("none", x.who(0, 0, 0, 2, 1), 0);
        JingleLaws y = Checks.told("f20;h0;w12,3,0;");
        int[] items = {9, 11, 6, 12};
        int[] due = {50, 4, 8, 0};
        for (int k = 0; k < items.length; k++) {
            Checks.fill(y, 0, items[k]);
            checks.due("12 and then " + items[k], y.who(0, 0, 0, 0, 1), due[k]);
        }
        y.give(0, 2);
        Checks.fill(y, 0, 1, 0);
        checks.due("1: half of 3 is lost, or 1 is kept", y.who(0, 0, 0, 0, 1), 36);
        checks.due("0: all others", y.who(0, 0, 0, 1, 1), 26);
        checks.due("nothing changes", y.kind(0), 3);
    }

    private void losses() {
        checks.says(0, "LOSSES (1 to 9, bits) of it");
        JingleLaws x = Checks.told("f10;h0;s10,5,0;");
        for (int loss = 0; loss <= 10; loss++) {
            Checks.fill(x, 0, 10 - loss);
            checks.due("10 and then " + (10 - loss), x.who(0, 1, 0, 0, 1), loss < 1 || loss > 9 ? 0 : 1 << loss);
        }
        x.give(0, 0);
        Checks.fill(x, 0, 0);
        checks.due("any", x.who(0, 1, 0, 0, 1), 1022);
        x.give(0, 8);
        checks.due("8, 9", x.who(0, 1, 0, 0, 1), 768);
        checks.due("nothing changes", x.rule(0, 1), 5);
        JingleLaws great = Checks.told("f10;h0;g10,5,0;");
        Checks.fill(great, 0, 10, 6);
        checks.due("half is 0", great.who(0, 1, 0, 0, 1), 2);
        checks.due("half is 4", great.who(0, 1, 0, 1, 1), 768);
    }

    private void beats() {
        checks.says(0, "BEATS (0 to LOUD: how many; the least; NONE) of it now by which it is so.");
        for (int loud : new int[] {10, 60}) {
            JingleLaws x = Checks.told("f" + loud + ";h0;s5,9,0;");
            Checks.fill(x, 0, 0, loud - 9, loud - 8);
            checks.due("0 to 9", x.who(0, 2, 0, 0, 1), 10);
            checks.due("the least", x.who(0, 3, 0, 0, 1), 0);
            checks.due("LOUD", x.who(0, 2, 0, 1, 1), 1);
            checks.due("LOUD", x.who(0, 3, 0, 1, 1), loud);
            checks.due("above LOUD", x.who(0, 2, 0, 2, 1), 0);
            checks.due("above LOUD", x.who(0, 3, 0, 2, 1), NONE);
            checks.due("nothing changes", x.rule(0, 0), 5);
        }
        JingleLaws all = Checks.told("f60;h20;h20;h20;h20;h20;s5,9,0;");
        for (int h = 0; h < 5; h++) {
            all.play(h, 0);
        }
        Checks.fill(all, 0, 51);
        checks.due("45 to 60 come to LOUD", all.who(0, 2, 0, 0, 1), 16);
        checks.due("the least", all.who(0, 3, 0, 0, 1), 45);
    }

    private void itemsBeyond() {
        checks.says(0, "by which it is so. STRENGTHS (0 to 20, bits) of a HAND by which it is so.");
        JingleLaws x = Checks.told("f10;h0;s5,1,0;");
        x.row(0, 0, 1);
        x.row(2, 2, 1);
        for (int v : new int[] {-1, 11, 127, 128, 255}) {
            x.set(0, 0, v);
            dueNothing("byte " + v, x, 0);
        }
        for (int v : new int[] {-1, 11, 256 + 4, 65536 + 4, LEAST, MOST}) {
            x.set(2, 0, v);
            dueNothing("int " + v, x, 2);
        }
        x.set(0, 0, 256 + 4);
        checks.due("the lowest bits of it are so", x.who(0, 3, 0, 0, 1), 5);
    }

    private void dueNothing(String call, JingleLaws x, int row) {
        int[] due = {0, 0, 0, NONE};
        for (int which = 0; which < 4; which++) {
            checks.due(call + ", which " + which, x.who(0, which, row, 0, 1), due[which]);
        }
        checks.due(call + ", felt", x.felt(0, 0, row, 0, 1), 0);
    }

    private void feltRefused() {
        checks.says(30, "likewise. BAD: HAND, RULE, ROW, n; NULL; PLACE.");
        JingleLaws none = new JingleLaws();
        none.row(0, 2, 12);
        checks.all(BAD, "no CAMP", n -> none.felt(0, 0, 0, 0, n), 0, 1, 12, 13);
        JingleLaws x = Checks.told("f10;h0;h0;h0;s9,1,0;s0,1,0;");
        x.row(0, 2, 40);
        checks.all(BAD, "HAND", h -> x.felt(h, 0, 0, 0, 1), LEAST, -1, 3, MOST);
        checks.all(BAD, "RULE", r -> x.felt(0, r, 0, 0, 1), LEAST, -1, 2, MOST);
        checks.all(BAD, "ROW", row -> x.felt(0, 0, row, 0, 1), LEAST, -1, 8, MOST);
        checks.all(BAD, "n", n -> x.felt(0, 0, 0, 0, n), LEAST, -1, 0, 13, 40, MOST);
        checks.all(NULL, "missing", row -> x.felt(0, 0, row, 0, 1), 1, 7);
        checks.due("BAD ahead of NULL", x.felt(0, 0, 1, 0, 13), BAD);
        checks.due("BAD ahead of NULL", x.felt(3, 0, 1, 0, 1), BAD);
        checks.due("BAD ahead of NULL", x.felt(0, 2, 1, 0, 1), BAD);
        checks.due("BAD ahead of PLACE", x.felt(0, 0, 0, -1, 0), BAD);
        checks.due("NULL ahead of PLACE", x.felt(0, 0, 1, -1, 1), NULL);
        checks.all(PLACE, "PLACE", i -> x.felt(0, 0, 0, i, 1), LEAST, -1, 40, MOST);
    }

    private void feltPlaces() {
        JingleLaws x = Checks.told("f20;h0;s14,1,0;");
        x.row(0, 0, 13);
        for (int i = 0; i < 13; i++) {
            x.set(0, i, 14 - i);
        }
        checks.due("12 from 1 on", x.felt(0, 0, 0, 1, 12), ANY_STRENGTH);
        checks.due("12 from 0 on", x.felt(0, 0, 0, 0, 12), 0);
        checks.due("12 from 2 on", x.felt(0, 0, 0, 2, 12), PLACE);
        checks.due("1 from 13 on", x.felt(0, 0, 0, 13, 1), PLACE);
        checks.due("wraps around", x.felt(0, 0, 0, MOST, 12), PLACE);
        checks.due("wraps around", x.felt(0, 0, 0, MOST - 11, 12), PLACE);
        checks.due("less than 0, up to a place", x.felt(0, 0, 0, -1, 2), PLACE);
        x.set(0, 12, 3);
        checks.due("the last of 12 is not so", x.felt(0, 0, 0, 1, 12), 0);
        checks.due("11 are so", x.felt(0, 0, 0, 1, 11), ANY_STRENGTH);
    }

    private void strengths() {
        checks.says(30, "STRENGTHS of a HAND by BEAT of a RULE");
        JingleLaws x = Checks.told("f60;h5;s20,1,0;");
        x.play(0, 0);
        Checks.fill(x, 0, 19, 21, 22, 20);
        checks.due("0 alone", x.felt(0, 0, 0, 0, 1), 1);
        checks.due("1 to 9", x.felt(0, 0, 0, 1, 1), 1022);
        checks.due("10 to 20", x.felt(0, 0, 0, 2, 1), ANY_STRENGTH - 1023);
        checks.due("none", x.felt(0, 0, 0, 3, 1), 0);
        Checks.fill(x, 0, 22, 23);
        checks.due("10 alone", x.felt(0, 0, 0, 0, 2), 1 << 10);
        Checks.fill(x, 0, 22, 24, 25);
        checks.due("11 alone", x.felt(0, 0, 0, 0, 3), 1 << 11);
        Checks.fill(x, 0, 21, 20);
        checks.due("1 alone", x.felt(0, 0, 0, 0, 2), 2);
        checks.due("nothing changes", x.hand(0, 0), 5);
    }

    private void strengthsFew() {
        // With 20 it is 3 for 11 HOURS: 2 more in each of them. With 19 it is just 2 in the last.
        JingleLaws x = Checks.told("f60;h0;s0,1,0;");
        x.play(0, 0);
        x.row(0, 2, 12);
        for (int i = 0; i < 11; i++) {
            x.set(0, i, 2 * (1 + i));
        }
        x.set(0, 11, 23);
        checks.due("11 HOURS: 20 alone", x.felt(0, 0, 0, 0, 11), 1 << 20);
        checks.due("12 HOURS: 20 alone", x.felt(0, 0, 0, 0, 12), 1 << 20);
        checks.due("10 HOURS: 19, 20", x.felt(0, 0, 0, 0, 10), 3 << 19);
        x.set(0, 11, 24);
        checks.due("12 HOURS: none", x.felt(0, 0, 0, 0, 12), 0);
    }
}
