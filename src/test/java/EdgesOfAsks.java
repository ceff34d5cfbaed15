/** Promises 33 to 40: IMAGES, KINDS, ASKS, counts, status. */
final class EdgesOfAsks {
    private static final int NONE = Checks.NONE, BAD = Checks.BAD, STATE = Checks.STATE, KIND = Checks.KIND;
    private static final int LEAST = Checks.LEAST, MOST = Checks.MOST;
    private static final String ALL_KINDS = "f30;h8;h12;h0;h20;s10,3,5;g20,4,8;w6,2,3;l15,5,48;o4,2,1;";

    private final Checks checks;

    EdgesOfAsks(Checks checks) {
        this.checks = checks;
    }

    void run() {
        imageRefused();
        imageKept();
        restoreRefused();
        restored();
        kinds();
        ases();
        askRefused();
        askAtBounds();
        traces();
        traceEmptyAhead();
        countRefused();
        countBytesAndRows();
        statusOfLatest();
        statusOfRefused();
        statusOfOthers();
    }

    private void imageRefused() {
        checks.says(33, "An IMAGE (0, 1) is kept of the CAMP: 1. BAD; STATE: no CAMP.");
        JingleLaws none = new JingleLaws();
        checks.all(BAD, "BAD ahead of STATE", none::image, LEAST, -1, 2, MOST);
        checks.all(STATE, "no CAMP", none::image, 0, 1);
        checks.all(STATE, "none was kept by it", none::restore, 0, 1);
        JingleLaws x = Checks.told(ALL_KINDS);
        checks.all(BAD, "k", x::image, LEAST, -1, 2, MOST);
        checks.all(1, "k", x::image, 0, 1);
    }

    private void imageKept() {
        JingleLaws x = Checks.told("f20;h5;s9,1,1;");
        x.give(0, 5);
        checks.due("image 0", x.image(0), 1);
        checks.due("ACTS can be undone yet", x.count(6), 1);
        checks.due("1 was not kept by it", x.restore(1), STATE);
        x.give(0, 6);
        checks.due("image 1", x.image(1), 1);
        x.give(0, 7);
        checks.due("image 0 again", x.image(0), 1);
        x.give(0, 8);
        x.restore(1);
        checks.due("BEAT of image 1", x.rule(0, 0), 6);
        x.restore(0);
        checks.due("BEAT of image 0, the later one", x.rule(0, 0), 7);
        x.give(0, 0);
        x.restore(0);
        checks.due("what is done behind it does not change it", x.rule(0, 0), 7);
    }

    private void restoreRefused() {
        checks.says(34, "BAD; STATE: none was kept.");
        JingleLaws none = new JingleLaws();
        checks.all(BAD, "BAD ahead of STATE", none::restore, LEAST, -1, 2, MOST);
        checks.all(STATE, "none was kept", none::restore, 0, 1);
        JingleLaws x = Checks.told(ALL_KINDS);
        checks.all(STATE, "none was kept", x::restore, 0, 1);
        x.image(1);
        checks.all(BAD, "k", x::restore, LEAST, -1, 2, MOST);
        checks.due("0 was not kept", x.restore(0), STATE);
        checks.due("1 was", x.restore(1), 1);
    }

    private void restored() {
        checks.says(34, "The CAMP is as an IMAGE kept it (no ACT can be undone then): 1.");
        JingleLaws x = Checks.told(ALL_KINDS);
        x.play(1, 2);
        x.bars(0, 63);
        x.hours(5);
        x.image(0);
        Refusals.Digest kept = Refusals.digest(x);
        Checks.feed(x, "f60;h1;o1,1,1;").camp();
        x.hours(3);
        checks.due("restore", x.restore(0), 1);
        checks.due("no ACT", x.count(6), 0);
        checks.due("no ACT", x.undo(), STATE);
        x.image(1);
        // By seven ACTS, they are as many as they were.
        x.play(0, NONE);
        for (int k = 0; k < 6; k++) {
            x.bars(0, 63);
        }
        checks.due(kept.unlike(Refusals.digest(x)), kept.isAs(Refusals.digest(x)) ? 1 : 0, 1);
        checks.due("of an IMAGE that was restored", x.restore(1), 1);
        checks.due("HOUR", x.count(3), 5);
        checks.due("hours go on", x.hours(1) >= 0 ? x.count(3) : -1, 6);
        checks.due("it can be undone", x.undo(), 0);
    }

    private void kinds() {
        checks.says(35, "The KIND of a RULE, as told (1 to 5). BAD.");
        JingleLaws none = new JingleLaws();
        checks.all(BAD, "no CAMP", none::kind, -1, 0, 1);
        JingleLaws x = Checks.told(ALL_KINDS);
        checks.all(BAD, "RULE", x::kind, LEAST, NONE, -1, 5, MOST);
        for (int r = 0; r < 5; r++) {
            checks.due("kind " + r, x.kind(r), r + 1);
        }
        checks.due("of a lesser CAMP", Checks.told("f10;h1;o1,1,1;").kind(1), BAD);
        checks.due("the only one", Checks.told("f10;h1;o1,1,1;").kind(0), 5);
    }

    private void ases() {
        checks.says(36, "A RULE is taken as one of a KIND (0 .. 5): its number. BAD; KIND: it is no such one.");
        JingleLaws none = new JingleLaws();
        checks.all(BAD, "no CAMP", kind -> none.as(0, kind), -1, 0, 5, 6);
        JingleLaws x = Checks.told(ALL_KINDS);
        checks.all(BAD, "RULE", r -> x.as(r, 0), LEAST, -1, 5, MOST);
        checks.all(BAD, "KIND", kind -> x.as(0, kind), LEAST, -1, 6, MOST);
        checks.all(BAD, "BAD ahead of KIND", r -> x.as(r, 5), -1, 5);
        checks.says(0, "0 RULE; 1 SONG, a RULE; 2 GREAT, a SONG; 3 WHIM, a SONG; 4 LOST, a RULE; 5 HOOP, a LOST.");
        String[] are = {"01", "012", "013", "04", "045"};
        for (int r = 0; r < 5; r++) {
            for (int kind = 0; kind <= 5; kind++) {
                boolean is = are[r].indexOf('0' + kind) >= 0;
                checks.due(r + " as " + kind, x.as(r, kind), is ? r : KIND);
            }
        }
    }

    private void askRefused() {
        checks.says(37, "An ASK (0, 1) of a RULE. BAD.");
        JingleLaws none = new JingleLaws();
        checks.all(BAD, "no CAMP", what -> none.ask(0, what), -1, 0, 1, 2);
        checks.due("nothing is left by it", none.trace(0), NONE);
        JingleLaws x = Checks.told(ALL_KINDS);
        checks.all(BAD, "RULE", r -> x.ask(r, 0), LEAST, -1, 5, MOST);
        checks.all(BAD, "ASK", what -> x.ask(0, what), LEAST, -1, 2, MOST);
        checks.due("nothing is left by it", x.trace(0), NONE);
    }

    /** The least and the most of what goes into an ASK: LOSS 1 and 9, BEAT 0 and 60, number 0 and 4. */
    private void askAtBounds() {
        checks.says(0, "SIZE, MARK within others are asked of the same RULE anew");
        String[] sorts = {"s", "g", "w", "l", "o"};
        int[][] leastOnes = {{1, 0}, {-1, 0}, {-999, -1000}, {-99, 99}, {-198, 198}};
        int[][] mostOnes = {{73, 64}, {-137, 128}, {-927, -936}, {-91, 95}, {-182, 186}};
        for (int k = 0; k < sorts.length; k++) {
            JingleLaws least = Checks.told("f10;h0;" + sorts[k] + "0,1,0;");
            JingleLaws most = Checks.told("f60;h0;s1,1,1;s1,1,1;s1,1,1;s1,1,1;" + sorts[k] + "60,9,0;");
            for (int what = 0; what < 2; what++) {
                checks.due(sorts[k] + " ask " + what, least.ask(0, what), leastOnes[k][what]);
                checks.due(sorts[k] + " ask " + what, most.ask(4, what), mostOnes[k][what]);
            }
        }
    }

    private void dueTrace(JingleLaws x, int one, int what, int... numbers) {
        x.ask(one, what);
        for (int i = 0; i < 18; i++) {
            checks.due("trace " + i + " of " + what + " of " + one, x.trace(i), i < numbers.length ? numbers[i] : NONE);
        }
    }

    private void traces() {
        checks.says(38, "Number i of THE TRACE; NONE.");
        JingleLaws x = new JingleLaws();
        checks.all(NONE, "none asked", x::trace, LEAST, -1, 0, 15, 16, MOST);
        Checks.feed(x, ALL_KINDS).camp();
        dueTrace(x, 0, 0, 11, 10, 21, 20);
        dueTrace(x, 1, 0, 12, 11, 10, 24, 21, 20);
        dueTrace(x, 2, 0, 11, 10, 22, 21, 20);
        dueTrace(x, 3, 0, 13, 10);
        dueTrace(x, 4, 0, 14, 13, 10);
        dueTrace(x, 0, 1, 21, 20);
        dueTrace(x, 1, 1, 24, 21, 20);
        dueTrace(x, 2, 1, 22, 21, 20);
        dueTrace(x, 3, 1, 23, 20, 13, 10);
        dueTrace(x, 4, 1, 23, 20, 14, 13, 10);
        checks.all(NONE, "no such number", x::trace, LEAST, NONE, -1, 5, 15, 16, MOST);
        checks.due("the first", x.trace(0), 23);
        checks.due("the last", x.trace(4), 10);
    }

    private void traceEmptyAhead() {
        checks.says(37, "THE TRACE is empty ahead of it.");
        JingleLaws x = Checks.told(ALL_KINDS);
        x.ask(1, 0);
        checks.due("six", x.trace(5), 20);
        x.ask(3, 0);
        checks.due("two", x.trace(1), 10);
        checks.due("no more than two", x.trace(2), NONE);
        checks.due("refused", x.ask(5, 0), BAD);
        checks.due("refused", x.ask(3, 2), BAD);
        checks.due("what is refused changes nothing", x.trace(0), 13);
        x.hours(1);
        x.undo();
        x.as(0, 5);
        checks.due("it stays", x.trace(1), 10);
    }

    private void countRefused() {
        checks.says(39, "6 ACTS that can be undone, 7 bytes on the tape. BAD.");
        JingleLaws x = new JingleLaws();
        checks.all(BAD, "what", x::count, LEAST, -1, 8, MOST);
        checks.all(0, "what", x::count, 0, 1, 2, 3, 4, 5, 6, 7);
        Checks.feed(x, "f60;h20;h20;h20;h20;h20;s60,9,63;s60,9,63;s60,9,63;s60,9,63;s60,9,63;").camp();
        checks.all(BAD, "what", x::count, LEAST, -1, 8, MOST);
        int[] due = {0, 5, 5, 0, 300, 100, 0, 0};
        for (int what = 0; what <= 7; what++) {
            checks.due("count " + what, x.count(what), due[what]);
        }
        // What a greater CAMP had counts no more.
        Checks.feed(x, "f10;h0;s0,1,0;").camp();
        int[] least = {0, 1, 1, 0, 0, 0, 0, 0};
        for (int what = 0; what <= 7; what++) {
            checks.due("count " + what, x.count(what), least[what]);
        }
    }

    private void countBytesAndRows() {
        JingleLaws x = Checks.told("f10;h0;s0,1,0;");
        for (int row = 0; row < 8; row++) {
            x.row(row, 0, row);
            checks.due("ROWS", x.count(0), row + 1);
        }
        x.row(3, 1, 5);
        checks.due("one in place of another", x.count(0), 8);
        for (int row = 0; row < 8; row++) {
            x.drop(row);
            checks.due("ROWS", x.count(0), 7 - row);
        }
        x.feed('f');
        checks.due("bytes", x.count(7), 1);
        x.hours(3);
        checks.due("HOUR", x.count(3), 3);
        checks.due("STRENGTH", x.count(5), 6);
        checks.due("ACTS", x.count(6), 3);
        x.undo();
        checks.due("HOUR", x.count(3), 2);
        checks.due("STRENGTH", x.count(5), 4);
        checks.due("ACTS", x.count(6), 2);
    }

    private void dueStatus(String call, JingleLaws x, long answer, long due, int number) {
        checks.due(call, answer, due);
        checks.due("status behind " + call, x.status(), number);
    }

    private void statusOfLatest() {
        checks.says(40, "the number of its FINDING; 0: it had none, or there was none.");
        JingleLaws x = Checks.told(ALL_KINDS);
        checks.due("there was none", x.status(), 0);
        dueStatus("drop", x, x.drop(0), Checks.NULL, 1);
        dueStatus("row", x, x.row(0, 2, 3), 3, 0);
        dueStatus("set", x, x.set(0, 3, 0), Checks.PLACE, 2);
        dueStatus("set", x, x.set(0, 2, 0), 0, 0);
        dueStatus("as", x, x.as(0, 2), KIND, 3);
        dueStatus("as", x, x.as(0, 1), 0, 0);
        dueStatus("row", x, x.row(0, 2, -1), Checks.SIZE, 4);
        dueStatus("copy", x, x.copy(0, 0, 0, 0, 3), 3, 0);
        x.row(1, 1, 3);
        dueStatus("copy", x, x.copy(0, 0, 1, 0, 3), Checks.STORE, 5);
        dueStatus("who", x, x.who(0, 0, 0, 0, 3), 0, 0);
        dueStatus("who", x, x.who(0, 0, 7, 0, 3), Checks.NULL, 1);
        dueStatus("felt", x, x.felt(0, 0, 0, 0, 3), 0, 0);
        dueStatus("felt", x, x.felt(0, 0, 0, 1, 3), Checks.PLACE, 2);
        dueStatus("drop", x, x.drop(1), 3, 0);
        dueStatus("set", x, x.set(1, 0, 0), Checks.NULL, 1);
        dueStatus("copy", x, x.copy(0, 0, 0, 1, 3), Checks.PLACE, 2);
        dueStatus("copy", x, x.copy(0, 0, 1, 0, 0), Checks.NULL, 1);
        dueStatus("who", x, x.who(0, 3, 0, 3, 1), Checks.PLACE, 2);
        x.set(0, 0, 31);
        x.as(0, 2);
        dueStatus("who, NONE is no FINDING", x, x.who(0, 3, 0, 0, 1), NONE, 0);
        dueStatus("felt", x, x.felt(0, 0, 1, 0, 1), Checks.NULL, 1);
    }

    private void statusOfRefused() {
        checks.says(40, "Of the latest call with a ROW, or as(), that was not BAD, STATE, FULL");
        JingleLaws x = Checks.told(ALL_KINDS);
        x.row(0, 0, 2);
        x.set(0, 2, 0);
        dueStatus("row", x, x.row(8, 0, 0), BAD, 2);
        dueStatus("row", x, x.row(0, 3, 0), BAD, 2);
        dueStatus("row", x, x.row(0, 0, 41), BAD, 2);
        dueStatus("set", x, x.set(8, 0, 0), BAD, 2);
        dueStatus("copy", x, x.copy(8, 0, 0, 0, 0), BAD, 2);
        dueStatus("copy", x, x.copy(0, 0, -1, 0, 0), BAD, 2);
        dueStatus("drop", x, x.drop(-1), BAD, 2);
        dueStatus("who", x, x.who(0, 4, 0, 0, 1), BAD, 2);
        dueStatus("felt", x, x.felt(4, 0, 0, 0, 1), BAD, 2);
        dueStatus("as", x, x.as(0, 6), BAD, 2);
        dueStatus("as", x, x.as(5, 0), BAD, 2);
        x.set(0, 0, 0);
        dueStatus("row", x, x.row(8, 0, 0), BAD, 0);
    }

    private void statusOfOthers() {
        JingleLaws x = Checks.told(ALL_KINDS);
        x.as(0, 5);
        x.feed('x');
        x.camp();
        x.hours(1);
        x.give(0, 1);
        x.play(0, 1);
        x.soup(0, 1);
        x.bars(0, 1);
        x.undo();
        x.ahead(0, 1);
        x.first(0);
        x.hands(0, 1, 0);
        x.rota(1, 0);
        x.cover(1, 0);
        x.byTurns(0, 1, 1);
        x.sleep(0, 1, 1, 0);
        x.drawn(1, 1, 0);
        x.image(0);
        x.restore(0);
        x.kind(0);
        x.ask(0, 0);
        x.trace(0);
        x.count(0);
        x.restore(1);
        x.hours(0);
        x.kind(5);
        checks.due("calls without a ROW do not count", x.status(), 3);
        Checks.feed(x, "f10;h0;s0,1,0;").camp();
        checks.due("another CAMP does not, either", x.status(), 3);
    }
}
