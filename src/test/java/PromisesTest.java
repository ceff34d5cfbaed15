/** Each promise by answers that were worked out by hand from the document: ordinary inputs, edges, wrong inputs. */
public final class PromisesTest {
    private static final int NONE = Checks.NONE, BAD = Checks.BAD, STATE = Checks.STATE, FULL = Checks.FULL;
    private static final int NULL = Checks.NULL, PLACE = Checks.PLACE, KIND = Checks.KIND, SIZE = Checks.SIZE,
        STORE = Checks.STORE;

    /** One RULE of each KIND; HANDS that are weak, strong, without STRENGTH, full. */
    private static final String ALL_KINDS = "f30;h8;h12;h0;h20;s10,3,5;g20,4,8;w6,2,3;l15,5,48;o4,2,1;";
    private static final String SONG = "f20;h10;h3;s5,4,1;";

    private static final Checks CHECKS = new Checks();

    private PromisesTest() {
    }

    public static void main(String[] args) {
        newObject();
        rows();
        sets();
        copies();
        drops();
        feeds();
        camps();
        faults();
        undoes();
        undoesOfEach();
        hours();
        hoursOfKinds();
        hoursAtBounds();
        gives();
        plays();
        soups();
        bars();
        ofRules();
        ofHands();
        stands();
        aheads();
        strongs();
        barreds();
        whens();
        firsts();
        hands();
        rotas();
        covers();
        falls();
        byTurns();
        shares();
        whos();
        felts();
        sleeps();
        drawns();
        images();
        restores();
        kinds();
        ases();
        asksOfSize();
        asksOfMark();
        traces();
        counts();
        statuses();
        CHECKS.end();
    }

    private static void due(String call, long got, long want) {
        CHECKS.due(call, got, want);
    }

    private static JingleLaws told(String text) {
        return Checks.told(text);
    }

    private static void newObject() {
        CHECKS.part("promise 1");
        JingleLaws x = new JingleLaws();
        for (int what = 0; what <= 7; what++) {
            due("count " + what, x.count(what), 0);
        }
        due("status", x.status(), 0);
        due("fault", x.fault(), 0);
        due("trace", x.trace(0), NONE);
        due("stand", x.stand(0), STATE);
        due("kind", x.kind(0), BAD);
        for (int row = 0; row < 8; row++) {
            due("drop " + row, x.drop(row), NULL);
        }
        due("NONE", JingleLaws.NONE, -1000000);
        due("BAD", JingleLaws.BAD, -1000001);
        due("STATE", JingleLaws.STATE, -1000002);
        due("FULL", JingleLaws.FULL, -1000003);
    }

    private static void rows() {
        CHECKS.part("promise 2");
        JingleLaws x = new JingleLaws();
        due("row -1", x.row(-1, 0, 1), BAD);
        due("row 8", x.row(8, 0, 1), BAD);
        due("lane -1", x.row(0, -1, 1), BAD);
        due("lane 3", x.row(0, 3, 1), BAD);
        due("n 41", x.row(0, 0, 41), BAD);
        due("n most", x.row(0, 0, Integer.MAX_VALUE), BAD);
        due("lane ahead of n", x.row(0, 3, -1), BAD);
        due("n -1", x.row(0, 0, -1), SIZE);
        due("n least", x.row(0, 0, Integer.MIN_VALUE), SIZE);
        due("none made", x.count(0), 0);
        due("n 0", x.row(0, 0, 0), 0);
        due("no place", x.set(0, 0, 1), PLACE);
        due("n 40", x.row(7, 2, 40), 40);
        due("last place", x.set(7, 39, 5), 5);
        due("found", x.row(7, 2, -1), SIZE);
        due("found changes nothing", x.drop(7), 40);
        x.row(7, 2, 40);
        x.set(7, 3, 9);
        due("anew", x.row(7, 2, 4), 4);
        x.row(6, 2, 4);
        due("set it", x.set(6, 3, 1), 1);
        // Items are told by what fits: a row of 0 is heard of a rule that does not hold.
        JingleLaws y = told("f10;h0;s0,9,0;");
        y.row(0, 1, 2);
        y.set(0, 0, 7);
        y.set(0, 1, 7);
        due("heard as set", y.who(0, 0, 0, 0, 2), 0);
        y.row(0, 1, 2);
        due("0 at first, once more", y.who(0, 0, 0, 0, 2), 14);
    }

    private static void sets() {
        CHECKS.part("promise 3");
        JingleLaws x = new JingleLaws();
        due("missing", x.set(0, 0, 1), NULL);
        due("missing ahead of place", x.set(0, -1, 1), NULL);
        due("row -1", x.set(-1, 0, 1), BAD);
        due("row 8", x.set(8, 0, 1), BAD);
        x.row(0, 0, 2);
        x.row(1, 1, 2);
        x.row(2, 2, 2);
        due("byte 127", x.set(0, 0, 127), 127);
        due("byte 128", x.set(0, 0, 128), -128);
        due("byte 511", x.set(0, 1, 511), -1);
        due("byte 256", x.set(0, 1, 256), 0);
        due("short 32767", x.set(1, 0, 32767), 32767);
        due("short 32768", x.set(1, 0, 32768), -32768);
        due("short 65537", x.set(1, 1, 65537), 1);
        due("int most", x.set(2, 0, Integer.MAX_VALUE), Integer.MAX_VALUE);
        due("int least", x.set(2, 1, Integer.MIN_VALUE), Integer.MIN_VALUE);
        due("place -1", x.set(0, -1, 0), PLACE);
        due("place 2", x.set(0, 2, 0), PLACE);
        due("place most", x.set(0, Integer.MAX_VALUE, 0), PLACE);
        due("place least", x.set(0, Integer.MIN_VALUE, 0), PLACE);
    }

    private static void copies() {
        CHECKS.part("promise 4");
        JingleLaws x = told("f10;h0;s9,1,0;");
        Checks.fill(x, 0, 8, 7, 6, 5);
        due("row a", x.copy(-1, 0, 0, 0, 0), BAD);
        due("row b", x.copy(0, 0, 8, 0, 0), BAD);
        due("a missing", x.copy(3, 0, 0, 0, 0), NULL);
        due("b missing", x.copy(0, 0, 3, 0, 0), NULL);
        x.row(1, 1, 4);
        due("lanes", x.copy(0, 0, 1, 0, 0), STORE);
        due("lanes ahead of place", x.copy(0, -1, 1, 0, 9), STORE);
        due("i -1", x.copy(0, -1, 0, 0, 1), PLACE);
        due("j -1", x.copy(0, 0, 0, -1, 1), PLACE);
        due("n -1", x.copy(0, 1, 0, 1, -1), PLACE);
        due("a's end", x.copy(0, 3, 0, 0, 2), PLACE);
        due("b's end", x.copy(0, 0, 0, 3, 2), PLACE);
        due("i beyond, none", x.copy(0, 5, 0, 0, 0), PLACE);
        due("wraps", x.copy(0, Integer.MAX_VALUE, 0, 0, 2), PLACE);
        due("n most", x.copy(0, 1, 0, 1, Integer.MAX_VALUE), PLACE);
        due("n least", x.copy(0, 1, 0, 1, Integer.MIN_VALUE), PLACE);
        due("at the end, none", x.copy(0, 4, 0, 4, 0), 0);
        due("as it was", x.who(0, 3, 0, 0, 4), 9);
        x.row(2, 2, 6);
        due("to another", x.copy(0, 0, 2, 2, 4), 4);
        due("came there", x.who(0, 3, 2, 2, 4), 9);
        // Over itself: 9 8 7 6, moved on by one, must read 9 9 8 7, not 9 9 9 9.
        Checks.fill(x, 0, 0, 8, 7, 6, 5);
        due("down over itself", x.copy(0, 1, 0, 0, 4), 4);
        due("down as ahead", x.who(0, 3, 0, 0, 4), 9);
        Checks.fill(x, 0, 8, 7, 6, 5, 0);
        due("up over itself", x.copy(0, 0, 0, 1, 4), 4);
        due("up as ahead", x.who(0, 3, 0, 1, 4), 9);
    }

    private static void drops() {
        CHECKS.part("promise 5");
        JingleLaws x = new JingleLaws();
        x.row(3, 1, 17);
        due("row -1", x.drop(-1), BAD);
        due("row 8", x.drop(8), BAD);
        due("missing", x.drop(2), NULL);
        due("drop", x.drop(3), 17);
        due("missing then", x.drop(3), NULL);
        due("cannot be set", x.set(3, 0, 0), NULL);
        x.row(3, 1, 0);
        due("none in it", x.drop(3), 0);
        due("count", x.count(0), 0);
    }

    private static void feeds() {
        CHECKS.part("promise 6");
        JingleLaws x = new JingleLaws();
        due("-1", x.feed(-1), BAD);
        due("256", x.feed(256), BAD);
        due("none yet", x.count(7), 0);
        for (int i = 1; i <= 120; i++) {
            due("byte " + i, x.feed(i == 1 ? 0 : i == 2 ? 255 : 'x'), i);
        }
        due("full", x.feed('x'), FULL);
        due("BAD ahead of FULL", x.feed(256), BAD);
        due("120", x.count(7), 120);
        due("camp", x.camp(), -1000100);
        due("empty then", x.count(7), 0);
        due("again", x.feed(1), 1);
    }

    private static void camps() {
        CHECKS.part("promise 7");
        due("all kinds", Checks.feed(new JingleLaws(), ALL_KINDS).camp(), 5);
        JingleLaws x = told(SONG);
        x.play(0, 0);
        x.hours(3);
        due("another", Checks.feed(x, "f60;h00;h20;h1;l60,9,63;o00,1,0;").camp(), 2);
        due("HOUR 0", x.count(3), 0);
        due("no HAND plays any", x.hand(0, 1), NONE);
        due("no ACT", x.count(6), 0);
        due("undo", x.undo(), STATE);
        due("HANDS", x.count(2), 3);
        due("LOUD", x.stand(4), 60);
        due("STRENGTH 00", x.hand(0, 0), 0);
        due("BEAT 60", x.rule(0, 0), 60);
        due("LOSS 9", x.rule(0, 1), 9);
        due("BARS 63", x.rule(0, 2), 63);
        x.hours(1);
        x.play(1, 0);
        due("with a FAULT", Checks.feed(x, "f60;h9;s70,1,1;").camp(), -1000108);
        due("all stays: HOUR", x.count(3), 1);
        due("all stays: HANDS", x.count(2), 3);
        due("all stays: played", x.hand(1, 1), 0);
        due("all stays: ACTS", x.count(6), 2);
        due("the tape is empty", x.count(7), 0);
        due("no bytes", x.camp(), -1000100);
        due("the most of all", Checks.feed(x,
            "f60;h20;h20;h20;h20;h20;s60,9,63;g60,9,63;w60,9,63;l60,9,63;o60,9,63;").camp(), 5);
    }

    private static void faultDue(String text, int place, int number) {
        JingleLaws x = Checks.feed(new JingleLaws(), text);
        due("camp of '" + text + "'", x.camp(), -1000100 - place);
        due("fault of '" + text + "'", x.fault(), number);
    }

    private static void faults() {
        CHECKS.part("promise 8");
        faultDue("", 0, 1);
        faultDue("x", 0, 1);
        faultDue("h8;", 0, 1);
        faultDue("F30;", 0, 1);
        faultDue("f", 1, 1);
        faultDue("f;", 1, 1);
        faultDue("f 30;", 1, 1);
        faultDue("f9;", 1, 2);
        faultDue("f09;", 1, 2);
        faultDue("f61;", 1, 2);
        faultDue("f030;", 1, 1);
        faultDue("f100", 1, 1);
        faultDue("f30", 3, 1);
        faultDue("f30,", 3, 1);
        faultDue("f30;", 4, 1);
        faultDue("f30;s1,1,1;", 4, 1);
        faultDue("f30;f30;", 4, 1);
        faultDue("f30;h", 5, 1);
        faultDue("f30;h21;", 5, 2);
        faultDue("f30;h020;", 5, 1);
        faultDue("f30;h20", 7, 1);
        faultDue("f30;h20;", 8, 1);
        faultDue("f30;h20;x", 8, 1);
        faultDue("f30;h20;12;", 8, 1);
        faultDue("f30;h2;h2;h2;h2;h2;h2;", 19, 3);
        faultDue("f30;h2;h2;h2;h2;h2;h", 19, 3);
        faultDue("f30;h2;h2;h2;h2;h2;q", 19, 1);
        faultDue("f30;h2;s", 8, 1);
        faultDue("f30;h2;s31,1,1;", 8, 2);
        faultDue("f30;h2;s30;", 10, 1);
        faultDue("f30;h2;s30,0,1;", 11, 2);
        faultDue("f30;h2;s30,10,1;", 11, 2);
        faultDue("f30;h2;s30,9;", 12, 1);
        faultDue("f30;h2;s30,9,64;", 13, 2);
        faultDue("f30;h2;s30,9,063;", 13, 1);
        faultDue("f30;h2;s30,9,63", 15, 1);
        faultDue("f30;h2;s30,9,63;h2;", 16, 1);
        faultDue("f30;h2;s30,9,63; ", 16, 1);
        faultDue("f30;h2;s1,1,1;g1,1,1;w1,1,1;l1,1,1;o1,1,1;s", 42, 3);
        faultDue("f30;h2;s1,1,1;g1,1,1;w1,1,1;l1,1,1;o1,1,1;h", 42, 1);
        faultDue("f30;h2;s1,1,1;g1,1,1;w1,1,1;l1,1,1;o1,1,1;f", 42, 1);
        JingleLaws x = new JingleLaws();
        due("none yet", x.fault(), 0);
        Checks.feed(x, "f61;").camp();
        due("the latest", x.fault(), 2);
        due("no FAULT", Checks.feed(x, SONG).camp(), 1);
        due("the latest stays", x.fault(), 2);
        Checks.feed(x, "f").camp();
        due("a later one", x.fault(), 1);
    }

    private static void undoes() {
        CHECKS.part("promise 9");
        JingleLaws x = new JingleLaws();
        due("no CAMP", x.undo(), STATE);
        Checks.feed(x, SONG).camp();
        due("no ACT", x.undo(), STATE);
        x.hours(24);
        due("24 kept", x.count(6), 24);
        x.give(0, 7);
        due("the oldest is forgotten", x.count(6), 24);
        due("undo", x.undo(), 23);
        due("BEAT again", x.rule(0, 0), 0);
        for (int left = 22; left >= 0; left--) {
            due("undo to " + left, x.undo(), left);
        }
        due("no more", x.undo(), STATE);
        due("one HOUR is left", x.count(3), 1);
        due("BEAT behind one", x.rule(0, 0), 1);
        due("STRENGTH behind one", x.hand(0, 0), 12);
        x.hours(2);
        x.hours(25);
        x.give(0, 21);
        due("what is refused is no ACT", x.count(6), 2);
    }

    private static void undoesOfEach() {
        JingleLaws x = told(SONG);
        x.give(0, 9);
        x.play(1, 0);
        x.play(1, NONE);
        x.soup(0, 20);
        x.bars(0, 62);
        x.hours(1);
        due("HOUR undone", x.undo(), 5);
        due("HOUR", x.count(3), 0);
        due("BEAT", x.rule(0, 0), 9);
        due("STRENGTH", x.hand(1, 0), 3);
        due("BARS undone", x.undo(), 4);
        due("BARS", x.rule(0, 2), 1);
        due("soup undone", x.undo(), 3);
        due("STRENGTH", x.hand(0, 0), 10);
        due("play undone", x.undo(), 2);
        due("plays", x.hand(1, 1), 0);
        due("play undone", x.undo(), 1);
        due("plays none", x.hand(1, 1), NONE);
        due("give undone", x.undo(), 0);
        due("BEAT", x.rule(0, 0), 5);
    }

    private static void hours() {
        CHECKS.part("promise 10");
        JingleLaws none = new JingleLaws();
        due("no CAMP", none.hours(1), STATE);
        due("no CAMP ahead of BAD", none.hours(0), STATE);
        JingleLaws x = told(ALL_KINDS);
        due("0", x.hours(0), BAD);
        due("25", x.hours(25), BAD);
        due("none passed", x.count(3), 0);
        due("hours", x.hours(2), 27);
        due("HOUR", x.count(3), 2);
        due("an ACT each", x.count(6), 2);
        for (int h = 2; h + 24 <= 986; h += 24) {
            x.hours(24);
        }
        due("HOUR 986", x.count(3), 986);
        due("to 1000", x.hours(14), FULL);
        due("BAD ahead of FULL", x.hours(25), BAD);
        due("nothing changed", x.count(3), 986);
        due("to 999 with the hoop, the lost one", x.hours(13), 24);
        due("HOUR 999", x.count(3), 999);
        due("at the end", x.hours(1), FULL);
        due("still foretold", x.barred(60), 49);
    }

    /** Worked out by hand: BEAT and STRENGTH behind each of the first HOURS, none playing. */
    private static void hoursOfKinds() {
        JingleLaws x = told(ALL_KINDS);
        due("hour 1", x.hours(1), 31);
        dueBeats(x, 7, 18, 2, 17, 6);
        dueStrengths(x, 6, 14, 2, 20);
        due("hour 2", x.hours(1), 27);
        dueBeats(x, 4, 16, 0, 20, 9);
        dueStrengths(x, 8, 12, 4, 20);
        x.play(0, 0);
        x.play(3, 0);
        x.play(1, 2);
        x.play(2, 3);
        // Hour 2 belongs to hand 2, which has 4: it has rules 3, 4; song 0 gains 2 and 3, whim 2 gains 3.
        due("hour 3", x.hours(1), 31);
        dueBeats(x, 6, 14, 1, 22, 11);
        dueStrengths(x, 7, 11, 2, 19);
        // Hour 3 belongs to hand 3, which plays song 0, too: three rules are played by it.
        due("hour 4", x.hours(1), 31);
        dueBeats(x, 8, 12, 2, 25, 14);
        dueStrengths(x, 6, 10, 4, 16);
    }

    private static void hoursAtBounds() {
        // LOUD at most comes ahead of the loss; a hoop that held keeps 1; half of 1 is 0; a whim loses twice.
        JingleLaws x = told("f10;h0;h20;s10,1,0;g10,1,0;w2,1,0;l3,9,0;o3,9,0;");
        x.play(1, 0);
        due("hour 1", x.hours(1), 19);
        dueBeats(x, 9, 10, 0, 0, 1);
        dueStrengths(x, 2, 19);
        due("hour 2", x.hours(1), 27);
        dueBeats(x, 9, 10, 0, 3, 4);
        dueStrengths(x, 4, 16);
        JingleLaws silent = told("f10;h0;o0,9,0;o1,9,0;o9,9,0;");
        due("a hoop that did not hold", silent.hours(1), 6);
        dueBeats(silent, 0, 1, 1);
        // 10 is strong, 9 is not; STRENGTH has its bounds 20 and 0.
        JingleLaws y = told("f60;h10;h9;h19;h20;h1;s20,1,0;l20,1,0;o20,1,0;");
        y.play(0, 0);
        y.play(1, 0);
        y.play(4, 0);
        due("hour 1", y.hours(1), 7);
        dueBeats(y, 26, 23, 23);
        dueStrengths(y, 7, 8, 20, 20, 0);
        JingleLaws z = told("f60;h1;l20,1,0;o20,1,0;");
        z.hours(1);
        dueBeats(z, 22, 22);
        dueStrengths(z, 0);
        // Half of an odd loss is cut.
        JingleLaws g = told("f60;h0;g20,9,0;");
        g.hours(1);
        dueBeats(g, 16);
    }

    private static void dueBeats(JingleLaws x, int... beats) {
        for (int r = 0; r < beats.length; r++) {
            due("BEAT of " + r + " in HOUR " + x.count(3), x.rule(r, 0), beats[r]);
        }
    }

    private static void dueStrengths(JingleLaws x, int... strengths) {
        for (int h = 0; h < strengths.length; h++) {
            due("STRENGTH of " + h + " in HOUR " + x.count(3), x.hand(h, 0), strengths[h]);
        }
    }

    private static void gives() {
        CHECKS.part("promise 11");
        JingleLaws x = new JingleLaws();
        due("no CAMP", x.give(0, 0), BAD);
        Checks.feed(x, SONG).camp();
        due("rule -1", x.give(-1, 0), BAD);
        due("rule 1", x.give(1, 0), BAD);
        due("beat -1", x.give(0, -1), BAD);
        due("above LOUD", x.give(0, 21), BAD);
        due("LOUD", x.give(0, 20), 5);
        due("0", x.give(0, 0), 20);
        due("does not HOLD", x.stand(0), 0);
        due("once more", x.give(0, 3), 0);
        due("BEAT", x.rule(0, 0), 3);
        due("ACTS", x.count(6), 3);
    }

    private static void plays() {
        CHECKS.part("promise 12");
        JingleLaws x = new JingleLaws();
        due("no CAMP", x.play(0, NONE), BAD);
        Checks.feed(x, ALL_KINDS).camp();
        due("hand -1", x.play(-1, 0), BAD);
        due("hand 4", x.play(4, 0), BAD);
        due("rule -1", x.play(0, -1), BAD);
        due("rule 5", x.play(0, 5), BAD);
        due("BAD is no rule", x.play(0, BAD), BAD);
        due("play", x.play(0, 3), NONE);
        due("another", x.play(0, 4), 3);
        due("none", x.play(0, NONE), 4);
        due("plays none", x.hand(0, 1), NONE);
        due("ACTS", x.count(6), 3);
    }

    private static void soups() {
        CHECKS.part("promise 13");
        JingleLaws x = new JingleLaws();
        due("no CAMP", x.soup(0, 1), BAD);
        Checks.feed(x, SONG).camp();
        due("hand -1", x.soup(-1, 1), BAD);
        due("hand 2", x.soup(2, 1), BAD);
        due("0", x.soup(0, 0), BAD);
        due("21", x.soup(0, 21), BAD);
        due("1", x.soup(1, 1), 4);
        due("to 19", x.soup(0, 9), 19);
        due("20 at most", x.soup(0, 2), 20);
        due("20", x.soup(1, 20), 20);
        due("STRENGTH", x.hand(1, 0), 20);
        due("ACTS", x.count(6), 4);
    }

    private static void bars() {
        CHECKS.part("promise 14");
        JingleLaws x = new JingleLaws();
        due("no CAMP", x.bars(0, 0), BAD);
        Checks.feed(x, SONG).camp();
        due("rule -1", x.bars(-1, 0), BAD);
        due("rule 1", x.bars(1, 0), BAD);
        due("-1", x.bars(0, -1), BAD);
        due("64", x.bars(0, 64), BAD);
        due("63", x.bars(0, 63), 1);
        due("0", x.bars(0, 0), 63);
        due("BARS", x.rule(0, 2), 0);
        due("ACTS", x.count(6), 2);
    }

    private static void ofRules() {
        CHECKS.part("promise 15");
        JingleLaws x = new JingleLaws();
        due("no CAMP", x.rule(0, 0), BAD);
        Checks.feed(x, ALL_KINDS).camp();
        due("rule -1", x.rule(-1, 0), BAD);
        due("rule 5", x.rule(5, 0), BAD);
        due("what -1", x.rule(0, -1), BAD);
        due("what 5", x.rule(0, 5), BAD);
        due("BEAT", x.rule(1, 0), 20);
        due("LOSS", x.rule(1, 1), 4);
        due("BARS", x.rule(1, 2), 8);
        x.play(0, 1);
        x.play(2, 1);
        x.play(3, 1);
        x.play(1, 3);
        due("PLAYED by those who have STRENGTH", x.rule(1, 3), 9);
        due("PLAYED by the one that has it", x.rule(3, 3), 1);
        due("has no HAND", x.rule(1, 4), NONE);
        due("a whim has none", x.rule(2, 4), NONE);
        x.hours(1);
        due("the next HAND", x.rule(3, 3), 2);
        due("has it", x.rule(4, 4), 1);
        x.hours(1);
        due("behind it, STRENGTH again", x.rule(1, 3), 13);
        x.hours(2);
        due("in a round", x.rule(3, 4), 0);
        JingleLaws y = told("f10;h0;o1,1,0;");
        due("has it without STRENGTH", y.rule(0, 4), 0);
        due("it is not PLAYED", y.rule(0, 3), 0);
    }

    private static void ofHands() {
        CHECKS.part("promise 16");
        JingleLaws x = new JingleLaws();
        due("no CAMP", x.hand(0, 0), BAD);
        Checks.feed(x, ALL_KINDS).camp();
        due("hand -1", x.hand(-1, 0), BAD);
        due("hand 4", x.hand(4, 0), BAD);
        due("what -1", x.hand(0, -1), BAD);
        due("what 3", x.hand(0, 3), BAD);
        due("STRENGTH", x.hand(1, 0), 12);
        due("plays none", x.hand(0, 1), NONE);
        x.play(0, 2);
        x.play(1, 4);
        x.play(2, 0);
        due("plays", x.hand(0, 1), 2);
        due("its song and those that it has", x.hand(0, 2), 28);
        due("plays what another has", x.hand(1, 2), 0);
        due("has no STRENGTH", x.hand(2, 2), 0);
        due("plays none", x.hand(3, 2), 0);
        x.hours(1);
        due("has them now", x.hand(1, 2), 24);
        due("has them no more", x.hand(0, 2), 4);
    }

    private static void stands() {
        CHECKS.part("promise 17");
        JingleLaws x = new JingleLaws();
        due("no CAMP", x.stand(0), STATE);
        due("no CAMP ahead of BAD", x.stand(5), STATE);
        Checks.feed(x, ALL_KINDS).camp();
        due("what -1", x.stand(-1), BAD);
        due("what 5", x.stand(5), BAD);
        due("HOLD", x.stand(0), 31);
        due("BARRED", x.stand(1), 63);
        due("FREE", x.stand(2), 0);
        due("BEAT", x.stand(3), 55);
        due("LOUD", x.stand(4), 30);
        x.give(2, 0);
        x.give(1, 0);
        due("HOLD then", x.stand(0), 25);
        due("BARRED then", x.stand(1), 53);
        due("FREE then", x.stand(2), 10);
        due("BEAT then", x.stand(3), 29);
    }

    private static void aheads() {
        CHECKS.part("promise 18");
        JingleLaws x = new JingleLaws();
        due("no CAMP", x.ahead(0, 0), BAD);
        Checks.feed(x, ALL_KINDS).camp();
        due("rule -1", x.ahead(-1, 0), BAD);
        due("rule 5", x.ahead(5, 0), BAD);
        due("n -1", x.ahead(0, -1), BAD);
        due("n 61", x.ahead(0, 61), BAD);
        due("0", x.ahead(0, 0), 10);
        due("1", x.ahead(0, 1), 7);
        due("2", x.ahead(3, 2), 20);
        due("60", x.ahead(1, 60), 0);
        due("60, at LOUD", x.ahead(4, 60), 30);
        due("nothing changes", x.count(3), 0);
        due("nothing changes", x.rule(0, 0), 10);
        due("no ACT", x.count(6), 0);
    }

    private static void strongs() {
        CHECKS.part("promise 19");
        JingleLaws x = new JingleLaws();
        due("no CAMP", x.strong(0, 0), BAD);
        Checks.feed(x, ALL_KINDS).camp();
        due("hand -1", x.strong(-1, 0), BAD);
        due("hand 4", x.strong(4, 0), BAD);
        due("n -1", x.strong(0, -1), BAD);
        due("n 61", x.strong(0, 61), BAD);
        due("0", x.strong(0, 0), 8);
        due("1", x.strong(0, 1), 6);
        due("2", x.strong(1, 2), 12);
        due("2", x.strong(2, 2), 4);
        due("60", x.strong(2, 60), 20);
        due("nothing changes", x.hand(0, 0), 8);
    }

    private static void barreds() {
        CHECKS.part("promise 20");
        JingleLaws x = new JingleLaws();
        due("no CAMP", x.barred(0), STATE);
        due("no CAMP ahead of BAD", x.barred(61), STATE);
        Checks.feed(x, ALL_KINDS).camp();
        due("-1", x.barred(-1), BAD);
        due("61", x.barred(61), BAD);
        due("0", x.barred(0), 63);
        due("2", x.barred(2), 61);
        due("4", x.barred(4), 57);
        due("60", x.barred(60), 49);
        due("nothing changes", x.stand(1), 63);
    }

    private static void whens() {
        CHECKS.part("promise 21");
        JingleLaws x = new JingleLaws();
        due("no CAMP", x.when(0), BAD);
        Checks.feed(x, "f60;h0;s60,1,0;g60,2,0;g60,3,0;g9,1,0;s0,1,0;").camp();
        due("rule -1", x.when(-1), BAD);
        due("rule 5", x.when(5), BAD);
        due("60", x.when(0), 60);
        due("60", x.when(1), 60);
        due("60, cut", x.when(2), 60);
        due("never", x.when(3), NONE);
        due("now", x.when(4), 0);
        JingleLaws y = told("f60;h20;s60,1,0;");
        y.play(0, 0);
        due("later than 60", y.when(0), NONE);
        due("nothing changes", y.rule(0, 0), 60);
    }

    private static void firsts() {
        CHECKS.part("promise 22");
        JingleLaws x = new JingleLaws();
        due("no CAMP", x.first(0), STATE);
        due("no CAMP ahead of BAD", x.first(2), STATE);
        Checks.feed(x, "f60;h0;s9,1,0;s0,1,0;s8,2,0;w8,1,0;s8,2,0;").camp();
        due("what -1", x.first(-1), BAD);
        due("what 2", x.first(2), BAD);
        due("the least of several that HOLD", x.first(0), 2);
        due("behind", x.first(1), 4);
        x.give(2, 0);
        x.give(3, 0);
        x.give(4, 0);
        due("the one that is left", x.first(0), 0);
        due("behind", x.first(1), 9);
        x.give(0, 0);
        due("none HOLDS", x.first(0), NONE);
        due("none HOLDS", x.first(1), NONE);
        JingleLaws y = told("f60;h0;g9,1,0;");
        due("never", y.first(0), NONE);
        due("never", y.first(1), NONE);
    }

    private static void hands() {
        CHECKS.part("promise 23");
        JingleLaws x = new JingleLaws();
        due("no CAMP", x.hands(0, 1, 0), BAD);
        Checks.feed(x, SONG).camp();
        due("rule -1", x.hands(-1, 1, 0), BAD);
        due("rule 1", x.hands(1, 1, 0), BAD);
        due("n 0", x.hands(0, 0, 0), BAD);
        due("n 31", x.hands(0, 31, 0), BAD);
        due("what -1", x.hands(0, 1, -1), BAD);
        due("what 2", x.hands(0, 1, 2), BAD);
        due("by itself", x.hands(0, 1, 0), 0);
        due("by itself", x.hands(0, 1, 1), 0);
        due("one", x.hands(0, 2, 0), 1);
        due("the least", x.hands(0, 2, 1), 1);
        due("both", x.hands(0, 3, 0), 2);
        due("both", x.hands(0, 3, 1), 3);
        due("never", x.hands(0, 30, 0), NONE);
        due("never", x.hands(0, 30, 1), NONE);
        x.play(0, 0);
        due("those who play it and are not among them play none", x.hands(0, 2, 0), 1);
        due("nothing changes", x.hand(0, 1), 0);
        // Hand 0 has the lost one in HOUR 0, hand 1 in HOUR 1. What a song takes from hand 1 is missing there.
        JingleLaws y = told("f20;h0;h1;s9,1,0;l5,5,0;");
        due("by itself", y.hands(1, 2, 0), 0);
        y.play(1, 0);
        due("the others as they do: hand 1 must leave its song", y.hands(1, 2, 1), 2);
        due("how many", y.hands(1, 2, 0), 1);
        // Hands 0 and 1 would do together (bits 3), but hand 2 does alone (bits 4): 5 and 3, less 7.
        JingleLaws z = told("f20;h1;h1;h10;h1;h1;s5,7,1;");
        due("fewer ahead of least", z.hands(0, 1, 1), 4);
        z.give(0, 0);
        due("all but one weak one", z.hands(0, 1, 0), 4);
        due("the least of these", z.hands(0, 1, 1), 15);
    }

    private static void rotas() {
        CHECKS.part("promise 24");
        JingleLaws x = new JingleLaws();
        due("no CAMP", x.rota(1, -1), STATE);
        due("no CAMP ahead of BAD", x.rota(0, -2), STATE);
        Checks.feed(x, "f20;h10;h3;s5,4,1;w5,2,2;").camp();
        due("n 0", x.rota(0, -1), BAD);
        due("n 13", x.rota(13, -1), BAD);
        due("hand -2", x.rota(1, -2), BAD);
        due("NONE is no hand", x.rota(1, NONE), BAD);
        due("hand 2", x.rota(1, 2), BAD);
        due("both HOLD", x.rota(2, -1), 2);
        due("of two the first", x.rota(2, 0), 0);
        due("of two the first", x.rota(2, 1), 1);
        due("most BEAT", x.rota(1, 0), 0);
        due("most BEAT", x.rota(1, 1), 1);
        due("nothing changes", x.hand(0, 1), NONE);
        // More RULES come ahead of more BEAT: hand 0 alone keeps the whim, which loses more than the great one.
        JingleLaws y = told("f60;h20;g50,9,0;w3,2,0;");
        due("how many", y.rota(2, -1), 2);
        due("the little one", y.rota(2, 0), 1);
        JingleLaws z = told("f20;h20;h20;l5,4,1;o5,4,1;");
        due("none to be played", z.rota(12, -1), 2);
        due("none ahead of any", z.rota(12, 0), NONE);
        due("none ahead of any", z.rota(12, 1), NONE);
        // To play takes the STRENGTH by which the lost one is kept: both HOLD just if hand 1 plays none.
        JingleLaws v = told("f20;h0;h1;s9,1,0;l5,5,0;");
        due("how many", v.rota(2, -1), 2);
        due("hand 0 is not needed in HOUR 1", v.rota(2, 0), 0);
        due("hand 1 is", v.rota(2, 1), NONE);
        JingleLaws w = told("f10;h1;s9,1,1;s9,1,1;");
        due("of two RULES the first", w.rota(1, 0), 0);
        w.give(0, 10);
        due("LOUD at most", w.rota(1, 0), 1);
        w.give(0, 0);
        w.give(1, 0);
        due("a worse night behind a better one", w.rota(1, -1), 1);
        due("a worse night behind a better one", w.rota(1, 0), 0);
        JingleLaws lost = told("f20;h0;l5,5,0;");
        due("the lost one falls", lost.rota(1, -1), 0);
        JingleLaws two = told("f60;h1;h1;h1;s2,5,0;s5,5,0;");
        due("two for the one, one for the other", two.rota(1, -1), 2);
        due("hand 0", two.rota(1, 0), 0);
        due("hand 1", two.rota(1, 1), 0);
        due("hand 2", two.rota(1, 2), 1);
        JingleLaws five = told("f60;h20;h20;h20;h20;h20;s9,9,0;s9,9,0;s9,9,0;s9,9,0;s9,9,0;");
        due("one for each", five.rota(1, -1), 5);
        for (int h = 0; h < 5; h++) {
            due("hand " + h, five.rota(1, h), h);
        }
        five.give(2, 60);
        due("four are enough, the first two keep one together", five.rota(1, 1), 0);
        // Three hands lose nothing of a 9, two hands have 21 left of the 60; nobody is left for a third.
        due("n 12", five.rota(12, -1), 2);
    }

    private static void covers() {
        CHECKS.part("promise 25");
        JingleLaws x = new JingleLaws();
        due("no CAMP", x.cover(0, 0), STATE);
        due("no CAMP ahead of BAD", x.cover(64, 2), STATE);
        Checks.feed(x, "f20;h1;s5,1,1;s5,1,2;s5,1,7;s0,1,15;s5,1,24;").camp();
        due("-1", x.cover(-1, 0), BAD);
        due("64", x.cover(64, 0), BAD);
        due("what -1", x.cover(0, -1), BAD);
        due("what 2", x.cover(0, 2), BAD);
        due("nothing", x.cover(0, 0), 0);
        due("nothing", x.cover(0, 1), 0);
        due("one", x.cover(3, 0), 1);
        due("which", x.cover(3, 1), 4);
        due("the least of several", x.cover(1, 1), 1);
        due("those that HOLD", x.cover(9, 0), 2);
        due("which", x.cover(9, 1), 17);
        due("two", x.cover(31, 1), 20);
        due("none", x.cover(32, 0), NONE);
        due("none", x.cover(63, 1), NONE);
        x.give(3, 1);
        due("one more HOLDS", x.cover(15, 1), 8);
        due("two", x.cover(31, 0), 2);
        due("the least of several", x.cover(31, 1), 20);
        JingleLaws y = told("f20;h1;s5,1,1;s5,1,2;s5,1,4;s5,1,8;s5,1,48;");
        due("all", y.cover(63, 0), 5);
        due("all", y.cover(63, 1), 31);
    }

    private static void falls() {
        CHECKS.part("promise 26");
        JingleLaws x = new JingleLaws();
        due("no CAMP", x.fall(0), STATE);
        due("no CAMP ahead of BAD", x.fall(64), STATE);
        Checks.feed(x, "f20;h1;s5,1,1;s5,1,2;s5,1,7;s0,1,15;s5,1,24;").camp();
        due("-1", x.fall(-1), BAD);
        due("64", x.fall(64), BAD);
        due("nothing", x.fall(0), 0);
        due("1", x.fall(1), 5);
        due("2 and 8", x.fall(10), 22);
        due("32", x.fall(32), 0);
        due("63", x.fall(63), 23);
    }

    private static void byTurns() {
        CHECKS.part("promise 27");
        JingleLaws x = new JingleLaws();
        due("no CAMP", x.byTurns(0, 0, 1), BAD);
        Checks.feed(x, "f20;h10;h3;h12;s5,4,1;").camp();
        due("rule -1", x.byTurns(-1, 0, 1), BAD);
        due("rule 1", x.byTurns(1, 0, 1), BAD);
        due("n -1", x.byTurns(0, -1, 1), BAD);
        due("n 5", x.byTurns(0, 5, 1), BAD);
        due("m 0", x.byTurns(0, 0, 0), BAD);
        due("m 21", x.byTurns(0, 0, 21), BAD);
        x.play(1, 0);
        due("no turn", x.byTurns(0, 0, 1), 3);
        due("one", x.byTurns(0, 1, 1), 6);
        due("two", x.byTurns(0, 2, 1), 4);
        due("three", x.byTurns(0, 3, 1), 7);
        due("four", x.byTurns(0, 4, 1), 7);
        due("nothing changes", x.hand(0, 1), NONE);
        due("nothing changes", x.hand(1, 1), 0);
        // Hand 0 has the lost one in HOUR 1; a song would take what it has: the second does nothing, which helps it.
        JingleLaws y = told("f20;h9;h1;s5,1,1;l9,5,1;");
        y.play(1, 0);
        // HOUR 0: hand 0 has it, 11. HOUR 1: hand 1 has spent itself on the song, 6; if it plays none, it has 3: 13.
        due("second would help", y.byTurns(1, 0, 2), 6);
        due("so it does nothing", y.byTurns(1, 2, 2), 6);
        // Hand 0 has it in HOUR 2, and STRENGTH for it just if it has left the song: 11, 6, then 1 or 8.
        JingleLaws z = told("f20;h3;h1;s5,1,1;l9,5,1;");
        z.play(0, 0);
        z.play(1, 0);
        due("hand 0 is spent", z.byTurns(1, 0, 3), 1);
        due("hand 0 leaves the song", z.byTurns(1, 1, 3), 8);
        // Five HANDS, 2 each: two even ones begin, two odd ones leave.
        JingleLaws five = told("f60;h5;h5;h5;h5;h5;s30,1,1;");
        five.play(1, 0);
        five.play(3, 0);
        due("two and two", five.byTurns(0, 4, 1), 33);
        due("two and one", five.byTurns(0, 3, 1), 35);
        due("m 20", five.byTurns(0, 0, 20), five.ahead(0, 20));
    }

    private static void shares() {
        CHECKS.part("promise 28");
        JingleLaws x = new JingleLaws();
        due("no CAMP", x.share(0, 0), BAD);
        Checks.feed(x, "f20;h10;h3;h12;s5,4,1;").camp();
        due("hand -1", x.share(-1, 0), BAD);
        due("hand 3", x.share(3, 0), BAD);
        due("n -1", x.share(0, -1), BAD);
        due("n 1000", x.share(0, 1000), BAD);
        due("0", x.share(0, 0), 0);
        due("10", x.share(0, 10), 3);
        due("10", x.share(1, 10), 5);
        due("10", x.share(2, 10), 2);
        due("35, nothing over", x.share(0, 35), 10);
        due("35, nothing over", x.share(1, 35), 17);
        due("999", x.share(0, 999), 286);
        due("999", x.share(1, 999), 485);
        due("999", x.share(2, 999), 228);
        due("nothing changes", x.hand(0, 0), 10);
        x.soup(0, 20);
        due("lacks none", x.share(0, 2), 0);
        due("the first that lacks any", x.share(1, 2), 2);
        due("the last", x.share(2, 2), 0);
        x.soup(1, 20);
        x.soup(2, 20);
        due("none lacks any", x.share(0, 999), 0);
        JingleLaws y = told("f20;h20;h19;h19;s5,4,1;");
        due("one that lacks 1", y.share(1, 5), 3);
        due("another", y.share(2, 5), 2);
        y.soup(1, 1);
        due("1 is lacking in all", y.share(2, 5), 5);
    }

    private static void whos() {
        CHECKS.part("promise 29");
        JingleLaws x = new JingleLaws();
        due("no CAMP", x.who(0, 0, 0, 0, 1), BAD);
        Checks.feed(x, SONG).camp();
        due("missing", x.who(0, 0, 0, 0, 1), NULL);
        due("missing ahead of place", x.who(0, 0, 0, -1, 1), NULL);
        Checks.fill(x, 0, 1, 0, 8, 9);
        x.row(7, 2, 40);
        due("rule -1", x.who(-1, 0, 0, 0, 1), BAD);
        due("rule 1", x.who(1, 0, 0, 0, 1), BAD);
        due("which -1", x.who(0, -1, 0, 0, 1), BAD);
        due("which 4", x.who(0, 4, 0, 0, 1), BAD);
        due("row -1", x.who(0, 0, -1, 0, 1), BAD);
        due("row 8", x.who(0, 0, 8, 0, 1), BAD);
        due("n 0", x.who(0, 0, 0, 0, 0), BAD);
        due("n 13", x.who(0, 0, 7, 0, 13), BAD);
        due("i -1", x.who(0, 0, 0, -1, 1), PLACE);
        due("beyond the end", x.who(0, 0, 0, 3, 2), PLACE);
        due("beyond the end", x.who(0, 0, 0, 4, 1), PLACE);
        due("wraps", x.who(0, 0, 0, Integer.MAX_VALUE, 12), PLACE);
        due("KINDS", x.who(0, 0, 0, 0, 2), 2);
        due("LOSSES", x.who(0, 1, 0, 0, 2), 16);
        due("BEATS", x.who(0, 2, 0, 0, 2), 1);
        due("the least", x.who(0, 3, 0, 0, 2), 5);
        due("KINDS, a whim", x.who(0, 0, 0, 1, 1), 8);
        due("LOSSES of 5 on", x.who(0, 1, 0, 1, 1), 992);
        due("BEATS 0 to 4", x.who(0, 2, 0, 1, 1), 5);
        due("the least", x.who(0, 3, 0, 1, 1), 0);
        due("KINDS, words lost", x.who(0, 0, 0, 2, 1), 48);
        due("LOSSES, none", x.who(0, 1, 0, 2, 1), 0);
        due("BEATS", x.who(0, 3, 0, 2, 1), 12);
        due("BEATS, none", x.who(0, 2, 0, 2, 2), 0);
        due("the least, none", x.who(0, 3, 0, 2, 2), NONE);
        due("n 12", x.who(0, 2, 7, 28, 12), 5);
        due("nothing changes", x.rule(0, 0), 5);
        due("nothing changes", x.kind(0), 1);
        due("nothing changes", x.rule(0, 1), 4);
        JingleLaws y = told("f10;h20;l8,4,1;");
        y.row(0, 2, 1);
        y.set(0, 0, 10);
        due("BEATS up to LOUD", y.who(0, 2, 0, 0, 1), 4);
        due("the least", y.who(0, 3, 0, 0, 1), 7);
        due("all LOSSES", y.who(0, 1, 0, 0, 1), 1022);
        due("KINDS, words lost", y.who(0, 0, 0, 0, 1), 48);
        // Who plays it goes by its KIND, too: hand 0 has it, though it is hand 1 that plays it.
        JingleLaws z = told("f20;h0;h4;s5,4,1;");
        z.play(1, 0);
        Checks.fill(z, 0, 3, 1, 0);
        due("a song by hand 1", z.who(0, 0, 0, 0, 3), 10);
        Checks.fill(z, 0, 1, 3, 5);
        due("lost, without hand 0", z.who(0, 0, 0, 0, 1), 48);
        due("then by hand 1", z.who(0, 0, 0, 0, 2), 48);
    }

    private static void felts() {
        CHECKS.part("promise 30");
        JingleLaws x = new JingleLaws();
        due("no CAMP", x.felt(0, 0, 0, 0, 1), BAD);
        Checks.feed(x, SONG).camp();
        x.play(0, 0);
        due("missing", x.felt(0, 0, 0, 0, 1), NULL);
        Checks.fill(x, 0, 4, 2, 3, 1);
        x.row(7, 2, 40);
        due("hand -1", x.felt(-1, 0, 0, 0, 1), BAD);
        due("hand 2", x.felt(2, 0, 0, 0, 1), BAD);
        due("rule -1", x.felt(0, -1, 0, 0, 1), BAD);
        due("rule 1", x.felt(0, 1, 0, 0, 1), BAD);
        due("row -1", x.felt(0, 0, -1, 0, 1), BAD);
        due("row 8", x.felt(0, 0, 8, 0, 1), BAD);
        due("n 0", x.felt(0, 0, 0, 0, 0), BAD);
        due("n 13", x.felt(0, 0, 7, 0, 13), BAD);
        due("i -1", x.felt(0, 0, 0, -1, 1), PLACE);
        due("beyond the end", x.felt(0, 0, 0, 3, 2), PLACE);
        due("10 to 20", x.felt(0, 0, 0, 0, 1), 2096128);
        due("10", x.felt(0, 0, 0, 0, 2), 1024);
        due("1 to 9", x.felt(0, 0, 0, 2, 1), 1022);
        due("0", x.felt(0, 0, 0, 3, 1), 1);
        due("any", x.felt(1, 0, 0, 0, 1), 2097151);
        due("none", x.felt(1, 0, 0, 1, 1), 0);
        due("nothing changes", x.hand(0, 0), 10);
    }

    private static void sleeps() {
        CHECKS.part("promise 31");
        JingleLaws x = new JingleLaws();
        due("no CAMP", x.sleep(0, 0, 0, 0), BAD);
        Checks.feed(x, SONG).camp();
        due("rule -1", x.sleep(-1, 0, 0, 0), BAD);
        due("rule 1", x.sleep(1, 0, 0, 0), BAD);
        due("n -1", x.sleep(0, -1, 0, 0), BAD);
        due("n 61", x.sleep(0, 61, 0, 0), BAD);
        due("p -1", x.sleep(0, 0, -1, 0), BAD);
        due("p 11", x.sleep(0, 0, 11, 0), BAD);
        due("what -1", x.sleep(0, 0, 0, -1), BAD);
        due("what 2", x.sleep(0, 0, 0, 2), BAD);
        x.play(0, 0);
        dueFraction(x, 2, 4, 3, 5);
        dueFraction(x, 2, 0, 1, 1);
        dueFraction(x, 2, 10, 0, 1);
        dueFraction(x, 0, 5, 1, 1);
        dueFraction(x, 60, 5, 0, 1);
        x.play(1, 0);
        x.give(0, 4);
        // From 4, hand 0 alone gives 3, 3, hand 1 alone 2, 2, none 0, 0: it does not HOLD just if both sleep.
        dueFraction(x, 1, 5, 3, 4);
        dueFraction(x, 2, 5, 3, 4);
        dueFraction(x, 2, 1, 99, 100);
        due("nothing changes", x.hand(0, 0), 10);
        JingleLaws y = told("f10;h1;h1;h1;h1;h1;s9,9,0;");
        for (int h = 0; h < 5; h++) {
            y.play(h, 0);
        }
        // Asleep it has 0, then 2, 1: 6, 4, 2.
        JingleLaws z = told("f20;h20;s10,4,0;");
        z.play(0, 0);
        dueFraction(z, 3, 10, 1, 1);
        dueFraction(z, 4, 10, 0, 1);
        // 9 is lost, LOUD is 10: any one awake is enough.
        due("above", y.sleep(0, 1, 7, 0), 10 * 10 * 10 * 10 * 10 - 7 * 7 * 7 * 7 * 7);
        due("below", y.sleep(0, 1, 7, 1), 100000);
    }

    private static void dueFraction(JingleLaws x, int n, int p, long above, long below) {
        due("above of " + n + " by " + p, x.sleep(0, n, p, 0), above);
        due("below of " + n + " by " + p, x.sleep(0, n, p, 1), below);
    }

    private static void drawns() {
        CHECKS.part("promise 32");
        JingleLaws x = new JingleLaws();
        due("no CAMP", x.drawn(0, 1, 0), STATE);
        due("no CAMP ahead of BAD", x.drawn(-1, 0, 2), STATE);
        Checks.feed(x, "f20;h10;h3;s5,4,1;w0,2,2;").camp();
        due("n -1", x.drawn(-1, 1, 0), BAD);
        due("n 61", x.drawn(61, 1, 0), BAD);
        due("seed 0", x.drawn(1, 0, 0), BAD);
        due("seed 1000000", x.drawn(1, 1000000, 0), BAD);
        due("what -1", x.drawn(1, 1, -1), BAD);
        due("what 2", x.drawn(1, 1, 2), BAD);
        due("no HOUR", x.drawn(0, 999999, 0), 1);
        due("no HOUR", x.drawn(0, 999999, 1), 5);
        due("3: hand 1 plays rule 1", x.drawn(1, 3, 0), 1);
        due("3: hand 1 plays rule 1", x.drawn(1, 3, 1), 1);
        due("15: and it is given out", x.drawn(1, 15, 0), 3);
        due("15: and it is given out", x.drawn(1, 15, 1), 10);
        due("5: it is just given out", x.drawn(1, 5, 0), 3);
        due("5: it is just given out", x.drawn(1, 5, 1), 6);
        x.play(1, 0);
        due("1: hand 1 plays none", x.drawn(1, 1, 1), 1);
        due("2: as they do", x.drawn(1, 2, 1), 3);
        due("nothing changes", x.hand(1, 1), 0);
        due("nothing changes", x.rule(1, 0), 0);
        JingleLaws one = told("f20;h10;s5,4,1;");
        due("3: the one hand plays the one rule", one.drawn(1, 3, 1), 4);
        due("2: nothing", one.drawn(1, 2, 1), 1);
        dueDrawnByHand(60, 999999);
        dueDrawnByHand(37, 12345);
    }

    /** The same night by calls that do what is drawn. */
    private static void dueDrawnByHand(int n, int seed) {
        JingleLaws x = told(ALL_KINDS);
        int which = x.drawn(n, seed, 0);
        int beat = x.drawn(n, seed, 1);
        long drawn = seed;
        for (int i = 0; i < n; i++) {
            drawn = drawn * 16807 % 2147483647;
            if (drawn % 3 < 2) {
                x.play((int) (drawn % 4), drawn % 3 == 0 ? (int) (drawn % 5) : NONE);
            }
            if (drawn % 5 == 0 && x.rule((int) (drawn % 5), 0) == 0) {
                x.give((int) (drawn % 5), 9);
            }
            x.hours(1);
        }
        due("which", which, x.stand(0));
        due("BEAT", beat, x.stand(3));
    }

    private static void images() {
        CHECKS.part("promise 33");
        JingleLaws x = new JingleLaws();
        due("-1", x.image(-1), BAD);
        due("2, ahead of STATE", x.image(2), BAD);
        due("no CAMP", x.image(0), STATE);
        due("none was kept", x.restore(0), STATE);
        Checks.feed(x, SONG).camp();
        x.hours(1);
        due("image", x.image(0), 1);
        due("ACTS stay", x.count(6), 1);
        due("the other was not kept", x.restore(1), STATE);
        due("image", x.image(1), 1);
        x.give(0, 9);
        due("in place of that ahead", x.image(0), 1);
        x.give(0, 12);
        x.restore(0);
        due("the later one", x.rule(0, 0), 9);
        x.restore(1);
        due("the other one", x.rule(0, 0), 1);
    }

    private static void restores() {
        CHECKS.part("promise 34");
        JingleLaws x = told(ALL_KINDS);
        due("-1", x.restore(-1), BAD);
        due("2", x.restore(2), BAD);
        due("none was kept", x.restore(0), STATE);
        x.hours(3);
        x.play(2, 1);
        x.bars(4, 7);
        x.image(0);
        x.row(0, 2, 3);
        Checks.feed(x, SONG).camp();
        x.hours(5);
        Checks.feed(x, "f1");
        due("restore", x.restore(0), 1);
        due("RULES", x.count(1), 5);
        due("HANDS", x.count(2), 4);
        due("HOUR", x.count(3), 3);
        due("LOUD", x.stand(4), 30);
        due("plays", x.hand(2, 1), 1);
        due("STRENGTH", x.hand(2, 0), 2);
        due("BARS", x.rule(4, 2), 7);
        due("KIND", x.kind(4), 5);
        due("LOSS", x.rule(3, 1), 5);
        due("no ACT", x.count(6), 0);
        due("no ACT", x.undo(), STATE);
        due("ROWS stay", x.count(0), 1);
        due("the tape stays", x.count(7), 2);
        x.hours(1);
        due("once more", x.restore(0), 1);
        due("HOUR", x.count(3), 3);
    }

    private static void kinds() {
        CHECKS.part("promise 35");
        JingleLaws x = new JingleLaws();
        due("no CAMP", x.kind(0), BAD);
        Checks.feed(x, ALL_KINDS).camp();
        due("-1", x.kind(-1), BAD);
        due("5", x.kind(5), BAD);
        for (int r = 0; r < 5; r++) {
            due("kind " + r, x.kind(r), r + 1);
        }
    }

    private static void ases() {
        CHECKS.part("promise 36");
        JingleLaws x = new JingleLaws();
        due("no CAMP", x.as(0, 0), BAD);
        Checks.feed(x, ALL_KINDS).camp();
        due("-1", x.as(-1, 0), BAD);
        due("5", x.as(5, 0), BAD);
        due("kind -1", x.as(0, -1), BAD);
        due("kind 6", x.as(0, 6), BAD);
        boolean[][] is = {
            {true, true, false, false, false, false},
            {true, true, true, false, false, false},
            {true, true, false, true, false, false},
            {true, false, false, false, true, false},
            {true, false, false, false, true, true},
        };
        for (int r = 0; r < 5; r++) {
            for (int kind = 0; kind < 6; kind++) {
                due(r + " as " + kind, x.as(r, kind), is[r][kind] ? r : KIND);
                due("status of " + r + " as " + kind, x.status(), is[r][kind] ? 0 : 3);
            }
        }
    }

    private static void dueAsk(JingleLaws x, int one, int what, int answer, int... trace) {
        due("ask " + what + " of " + one, x.ask(one, what), answer);
        for (int i = 0; i < 16; i++) {
            due("trace " + i + " of " + what + " of " + one, x.trace(i), i < trace.length ? trace[i] : NONE);
        }
    }

    private static void asksOfSize() {
        CHECKS.part("promise 37");
        JingleLaws x = new JingleLaws();
        due("no CAMP", x.ask(0, 0), BAD);
        Checks.feed(x, ALL_KINDS).camp();
        due("-1", x.ask(-1, 0), BAD);
        due("5", x.ask(5, 0), BAD);
        due("what -1", x.ask(0, -1), BAD);
        due("what 2", x.ask(0, 2), BAD);
        dueAsk(x, 0, 0, 13, 11, 10, 21, 20);
        dueAsk(x, 1, 0, -46, 12, 11, 10, 24, 21, 20);
        dueAsk(x, 2, 0, -990, 11, 10, 22, 21, 20);
        dueAsk(x, 3, 0, -95, 13, 10);
        dueAsk(x, 4, 0, -196, 14, 13, 10);
    }

    private static void asksOfMark() {
        JingleLaws x = told(ALL_KINDS);
        dueAsk(x, 0, 1, 10, 21, 20);
        dueAsk(x, 1, 1, 42, 24, 21, 20);
        dueAsk(x, 2, 1, -992, 22, 21, 20);
        dueAsk(x, 3, 1, 98, 23, 20, 13, 10);
        dueAsk(x, 4, 1, 200, 23, 20, 14, 13, 10);
        x.give(1, 0);
        dueAsk(x, 1, 1, 2, 24, 21, 20);
    }

    private static void traces() {
        CHECKS.part("promise 38");
        JingleLaws x = told(ALL_KINDS);
        due("empty", x.trace(0), NONE);
        x.ask(0, 0);
        due("0", x.trace(0), 11);
        due("3", x.trace(3), 20);
        due("4", x.trace(4), NONE);
        due("-1", x.trace(-1), NONE);
        due("least", x.trace(Integer.MIN_VALUE), NONE);
        due("most", x.trace(Integer.MAX_VALUE), NONE);
        due("refused", x.ask(5, 0), BAD);
        due("refused", x.ask(0, 2), BAD);
        due("what is refused changes nothing", x.trace(0), 11);
        x.hours(1);
        Checks.feed(x, SONG).camp();
        due("it stays", x.trace(3), 20);
    }

    private static void counts() {
        CHECKS.part("promise 39");
        JingleLaws x = told(ALL_KINDS);
        due("-1", x.count(-1), BAD);
        due("8", x.count(8), BAD);
        x.row(0, 0, 0);
        x.row(5, 0, 9);
        x.row(5, 1, 2);
        due("ROWS", x.count(0), 2);
        x.drop(0);
        due("ROWS", x.count(0), 1);
        due("RULES", x.count(1), 5);
        due("HANDS", x.count(2), 4);
        due("BEAT", x.count(4), 55);
        due("STRENGTH", x.count(5), 40);
        x.hours(2);
        due("HOUR", x.count(3), 2);
        due("BEAT then", x.count(4), 49);
        due("STRENGTH then", x.count(5), 44);
        due("ACTS", x.count(6), 2);
        x.feed('x');
        due("bytes", x.count(7), 1);
        // What belonged to a greater CAMP does not count any more.
        x.camp();
        Checks.feed(x, SONG).camp();
        due("BEAT of the lesser", x.count(4), 5);
        due("STRENGTH of the lesser", x.count(5), 13);
        Checks.feed(x, "f60;h20;h20;h20;h20;h20;s60,9,63;s60,9,63;").camp();
        Checks.feed(x, SONG).camp();
        due("BEAT of the lesser", x.count(4), 5);
        due("STRENGTH of the lesser", x.count(5), 13);
    }

    private static void statuses() {
        CHECKS.part("promise 40");
        JingleLaws x = told(ALL_KINDS);
        due("none yet", x.status(), 0);
        x.drop(0);
        due("NULL", x.status(), 1);
        due("it stays", x.status(), 1);
        x.drop(8);
        x.row(0, 3, 1);
        x.set(-1, 0, 0);
        x.copy(0, 0, 8, 0, 0);
        x.as(0, 6);
        x.who(0, 0, 8, 0, 1);
        x.felt(0, 0, 0, 0, 13);
        due("what is BAD does not count", x.status(), 1);
        x.hours(1);
        x.ask(0, 0);
        x.undo();
        due("what has no ROW does not count", x.status(), 1);
        x.row(0, 0, 2);
        due("none", x.status(), 0);
        x.set(0, 2, 0);
        due("PLACE", x.status(), 2);
        x.set(0, 1, 0);
        due("none", x.status(), 0);
        x.as(0, 5);
        due("KIND", x.status(), 3);
        x.as(0, 1);
        due("none", x.status(), 0);
        x.row(0, 0, -1);
        due("SIZE", x.status(), 4);
        x.copy(0, 0, 0, 1, 1);
        due("none", x.status(), 0);
        x.row(1, 1, 2);
        x.copy(0, 0, 1, 0, 1);
        due("STORE", x.status(), 5);
        x.drop(1);
        due("none", x.status(), 0);
        x.who(0, 0, 1, 0, 1);
        due("NULL", x.status(), 1);
        x.who(0, 0, 0, 0, 1);
        due("none", x.status(), 0);
        x.felt(0, 0, 0, 2, 1);
        due("PLACE", x.status(), 2);
        x.felt(0, 0, 0, 0, 1);
        due("none", x.status(), 0);
    }
}
