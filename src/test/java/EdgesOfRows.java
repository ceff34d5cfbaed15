/** Promises 1 to 5: ROWS, their LANES and ITEMS. */
final class EdgesOfRows {
    private static final int BAD = Checks.BAD, NULL = Checks.NULL, PLACE = Checks.PLACE, SIZE = Checks.SIZE,
        STORE = Checks.STORE, NONE = Checks.NONE;
    private static final int LEAST = Checks.LEAST, MOST = Checks.MOST;
    private static final int BYTES = 0, SHORTS = 1, INTS = 2;

    private final Checks checks;

    EdgesOfRows(Checks checks) {
        this.checks = checks;
    }

    void run() {
        newObject();
        missingAtFirst();
        itemsAtFirst();
        rowRefused();
        rowInPlace();
        setBits();
        setRefused();
        copyRefused();
        copyPlaces();
        copyWithinOne();
        copyToAnother();
        dropped();
        dropRefused();
    }

    /** An object whose ITEMS can be read: half of LOSS 1 is 0, so a great one tells the BEAT that it has. */
    static JingleLaws reader() {
        return Checks.told("f60;h0;g0,1,0;");
    }

    /** ITEM i of a ROW, if it is 0 to 60; else NONE. */
    static int item(JingleLaws x, int row, int i) {
        return x.who(0, 3, row, i, 1);
    }

    private void dueItems(String call, JingleLaws x, int row, int... items) {
        for (int i = 0; i < items.length; i++) {
            checks.due(call + ": ITEM " + i, item(x, row, i), items[i]);
        }
        checks.due(call + ": the end", x.set(row, items.length, 0), PLACE);
    }

    private void newObject() {
        checks.says(1, "No CAMP.");
        JingleLaws x = new JingleLaws();
        for (int what = 0; what <= 7; what++) {
            checks.due("count " + what, x.count(what), 0);
        }
        checks.due("stand", x.stand(0), Checks.STATE);
        checks.due("kind", x.kind(0), BAD);
        checks.due("hand", x.hand(0, 0), BAD);
        checks.due("undo", x.undo(), Checks.STATE);
        checks.due("fault", x.fault(), 0);
        checks.due("status", x.status(), 0);
        checks.due("trace", x.trace(0), NONE);
        checks.due("restore 0", x.restore(0), Checks.STATE);
        checks.due("restore 1", x.restore(1), Checks.STATE);
        JingleLaws other = Checks.told("f10;h1;s1,1,1;");
        checks.due("another object has its own", new JingleLaws().count(1) + 10 * other.count(1), 10);
    }

    private void missingAtFirst() {
        checks.says(0, "ROWS 0 .. 7 are missing (at first)");
        for (int row = 0; row <= 7; row++) {
            JingleLaws x = new JingleLaws();
            checks.due("drop " + row, x.drop(row), NULL);
            checks.due("set " + row, x.set(row, 0, 0), NULL);
            checks.due("copy " + row, x.copy(row, 0, row, 0, 0), NULL);
            checks.due("row " + row, x.row(row, BYTES, 1), 1);
            checks.due("count " + row, x.count(0), 1);
        }
    }

    private void itemsAtFirst() {
        checks.says(0, "and 0 to 40 ITEMS, 0 at first");
        for (int lane = BYTES; lane <= INTS; lane++) {
            JingleLaws x = reader();
            checks.due("none", x.row(0, lane, 0), 0);
            checks.due("none has no place", x.set(0, 0, 0), PLACE);
            checks.due("a ROW without ITEMS is there", x.count(0), 1);
            checks.due("40", x.row(7, lane, 40), 40);
            dueItems("lane " + lane, x, 7, new int[40]);
            checks.due("the last", x.set(7, 39, 60), 60);
            checks.due("the last", item(x, 7, 39), 60);
            checks.due("its neighbour", item(x, 7, 38), 0);
        }
    }

    private void rowRefused() {
        checks.says(2, "BAD: ROW, LANE, n above 40; SIZE.");
        JingleLaws x = reader();
        checks.all(BAD, "ROW", v -> x.row(v, BYTES, 1), LEAST, -1, 8, MOST);
        checks.all(BAD, "LANE", v -> x.row(0, v, 1), LEAST, -1, 3, MOST);
        checks.all(BAD, "n", v -> x.row(0, BYTES, v), 41, 1000, MOST);
        checks.all(SIZE, "n", v -> x.row(0, BYTES, v), -1, -41, LEAST);
        checks.all(BAD, "ROW ahead of SIZE", v -> x.row(v, BYTES, -1), -1, 8);
        checks.all(BAD, "LANE ahead of SIZE", v -> x.row(0, v, -1), -1, 3);
        checks.due("none was made", x.count(0), 0);
        checks.all(3, "ROW", v -> x.row(v, BYTES, 3), 0, 7);
        checks.all(3, "LANE", v -> x.row(0, v, 3), BYTES, SHORTS, INTS);
        x.set(0, 2, 9);
        checks.due("SIZE", x.row(0, BYTES, -1), SIZE);
        checks.due("BAD", x.row(0, BYTES, 41), BAD);
        dueItems("as it was", x, 0, 0, 0, 9);
    }

    private void rowInPlace() {
        checks.says(2, "in place of what is there: n.");
        JingleLaws x = reader();
        x.row(0, INTS, 40);
        for (int i = 0; i < 40; i++) {
            x.set(0, i, 1 + i);
        }
        checks.due("fewer", x.row(0, BYTES, 2), 2);
        dueItems("fewer, 0 again", x, 0, 0, 0);
        checks.due("of the other LANE", x.set(0, 1, 128), -128);
        checks.due("none", x.row(0, SHORTS, 0), 0);
        dueItems("none", x, 0);
        checks.due("all again", x.row(0, INTS, 40), 40);
        dueItems("all again, 0", x, 0, new int[40]);
        checks.due("one ROW", x.count(0), 1);
    }

    private void setBits() {
        checks.says(3, "ITEM i becomes v, its lowest bits, as many as the LANE has: what it is then.");
        JingleLaws x = reader();
        int[] told = {0, 127, 128, 255, 256, 257, -1, -128, -129, -256, MOST, LEAST, 0x12345678};
        int[] bytes = {0, 127, -128, -1, 0, 1, -1, -128, 127, 0, -1, 0, 0x78};
        x.row(0, BYTES, 1);
        for (int k = 0; k < told.length; k++) {
            checks.due("byte " + told[k], x.set(0, 0, told[k]), bytes[k]);
        }
        told = new int[] {32767, 32768, 65535, 65536, 65537, -1, -32768, -32769, -65536, MOST, LEAST, 0x12345678};
        int[] shorts = {32767, -32768, -1, 0, 1, -1, -32768, 32767, 0, -1, 0, 0x5678};
        x.row(1, SHORTS, 1);
        for (int k = 0; k < told.length; k++) {
            checks.due("short " + told[k], x.set(1, 0, told[k]), shorts[k]);
        }
        x.row(2, INTS, 1);
        for (int v : new int[] {0, 255, 65536, -1, MOST, LEAST, 0x12345678}) {
            checks.due("int " + v, x.set(2, 0, v), v);
        }
        x.set(0, 0, 256 + 9);
        x.set(1, 0, 65536 + 8);
        x.set(2, 0, 65536);
        checks.due("a byte is kept so", item(x, 0, 0), 9);
        checks.due("a short is kept so", item(x, 1, 0), 8);
        checks.due("an int is kept whole", item(x, 2, 0), NONE);
    }

    private void setRefused() {
        checks.says(3, "BAD: ROW; NULL; PLACE.");
        JingleLaws x = reader();
        checks.all(BAD, "ROW", v -> x.set(v, 0, 0), LEAST, -1, 8, MOST);
        checks.all(BAD, "ROW ahead of PLACE", v -> x.set(v, -1, 0), -1, 8);
        checks.all(NULL, "NULL ahead of PLACE", i -> x.set(0, i, 0), LEAST, -1, 0, 40, MOST);
        x.row(0, INTS, 2);
        checks.all(PLACE, "PLACE", i -> x.set(0, i, 5), LEAST, -1, 2, 40, MOST);
        dueItems("nothing was set", x, 0, 0, 0);
        checks.all(5, "the first, the last", i -> x.set(0, i, 5), 0, 1);
        dueItems("both were set", x, 0, 5, 5);
    }

    private void copyRefused() {
        checks.says(4, "BAD: ROWS; NULL; STORE; PLACE");
        JingleLaws x = reader();
        x.row(0, BYTES, 2);
        checks.all(BAD, "a", v -> x.copy(v, 0, 0, 0, 0), LEAST, -1, 8, MOST);
        checks.all(BAD, "b", v -> x.copy(0, 0, v, 0, 0), LEAST, -1, 8, MOST);
        checks.due("BAD ahead of NULL", x.copy(5, 0, 8, 0, 0), BAD);
        checks.due("BAD ahead of NULL", x.copy(8, 0, 5, 0, 0), BAD);
        checks.due("a is missing", x.copy(5, 0, 0, 0, 0), NULL);
        checks.due("b is missing", x.copy(0, 0, 5, 0, 0), NULL);
        checks.due("NULL ahead of PLACE", x.copy(0, -1, 5, 0, 0), NULL);
        x.row(1, SHORTS, 2);
        x.row(2, INTS, 2);
        checks.due("NULL ahead of STORE", x.copy(1, 0, 5, 0, 0), NULL);
        for (int a = 0; a <= 2; a++) {
            for (int b = 0; b <= 2; b++) {
                checks.due("STORE " + a + " " + b, x.copy(a, 0, b, 0, 0), a == b ? 0 : STORE);
                checks.due("STORE ahead of PLACE " + a + " " + b, x.copy(a, 0, b, 0, 3), a == b ? PLACE : STORE);
                checks.due("STORE ahead of PLACE " + a + " " + b, x.copy(a, -1, b, 0, 1), a == b ? PLACE : STORE);
            }
        }
        x.row(1, BYTES, 2);
        checks.due("by the LANE that it has now", x.copy(0, 0, 1, 0, 2), 2);
    }

    private void copyPlaces() {
        checks.says(4, "PLACE (i, j, n below 0, or beyond an end)");
        JingleLaws x = reader();
        x.row(0, INTS, 3);
        x.row(1, INTS, 5);
        for (int i = 0; i < 3; i++) {
            x.set(0, i, 7 + i);
        }
        checks.all(PLACE, "i", i -> x.copy(0, i, 1, 0, 1), LEAST, -1, 3, 4, MOST);
        checks.all(PLACE, "j", j -> x.copy(0, 0, 1, j, 1), LEAST, -1, 5, 6, MOST);
        checks.all(PLACE, "n", n -> x.copy(0, 0, 1, 0, n), LEAST, -1, 4, 41, MOST);
        checks.all(PLACE, "n, of b", n -> x.copy(0, 0, 1, 3, n), -1, 3);
        checks.all(PLACE, "i beyond the end, none of it", i -> x.copy(0, i, 1, 0, 0), LEAST, -1, 4, MOST);
        checks.all(PLACE, "j beyond the end, none of it", j -> x.copy(0, 0, 1, j, 0), LEAST, -1, 6, MOST);
        checks.due("i and n wrap around", x.copy(0, MOST, 1, 0, MOST), PLACE);
        checks.due("j and n wrap around", x.copy(0, 0, 1, MOST, 2), PLACE);
        checks.due("i and n are 0 together", x.copy(0, -1, 1, 0, 1), PLACE);
        checks.due("less than none, at the end", x.copy(0, 3, 1, 5, -1), PLACE);
        dueItems("nothing came", x, 1, 0, 0, 0, 0, 0);
        checks.due("at both ends, none", x.copy(0, 3, 1, 5, 0), 0);
        checks.due("up to both ends", x.copy(0, 0, 1, 2, 3), 3);
        dueItems("they came", x, 1, 0, 0, 7, 8, 9);
        dueItems("a has them yet", x, 0, 7, 8, 9);
        x.row(2, INTS, 0);
        checks.due("of none, none", x.copy(2, 0, 2, 0, 0), 0);
        checks.due("of none, one", x.copy(2, 0, 0, 0, 1), PLACE);
    }

    private void copyWithinOne() {
        checks.says(4, "n ITEMS of a from i on come to b from j on, as they were ahead: n.");
        for (int lane = BYTES; lane <= INTS; lane++) {
            JingleLaws x = reader();
            x.row(3, lane, 5);
            for (int i = 0; i < 5; i++) {
                x.set(3, i, 1 + i);
            }
            checks.due("up by one", x.copy(3, 0, 3, 1, 4), 4);
            dueItems("up by one", x, 3, 1, 1, 2, 3, 4);
            checks.due("down by two", x.copy(3, 2, 3, 0, 3), 3);
            dueItems("down by two", x, 3, 2, 3, 4, 3, 4);
            checks.due("to itself", x.copy(3, 0, 3, 0, 5), 5);
            dueItems("to itself", x, 3, 2, 3, 4, 3, 4);
        }
    }

    private void copyToAnother() {
        JingleLaws x = reader();
        x.row(0, SHORTS, 40);
        x.row(7, SHORTS, 40);
        for (int i = 0; i < 40; i++) {
            x.set(0, i, i);
        }
        checks.due("all 40", x.copy(0, 0, 7, 0, 40), 40);
        checks.due("the first", item(x, 7, 0), 0);
        checks.due("the last", item(x, 7, 39), 39);
        x.set(0, 39, 50);
        checks.due("they are its own", item(x, 7, 39), 39);
        x.drop(0);
        checks.due("they are its own", item(x, 7, 38), 38);
    }

    private void dropped() {
        checks.says(5, "A ROW is missing from now on: how many ITEMS it had.");
        JingleLaws x = reader();
        x.row(0, INTS, 40);
        x.row(7, BYTES, 0);
        x.set(0, 5, 6);
        checks.due("40", x.drop(0), 40);
        checks.due("one is left", x.count(0), 1);
        checks.due("0", x.drop(7), 0);
        checks.due("none is left", x.count(0), 0);
        checks.due("set", x.set(0, 0, 0), NULL);
        checks.due("who", x.who(0, 0, 0, 0, 1), NULL);
        checks.due("felt", x.felt(0, 0, 0, 0, 1), NULL);
        checks.due("anew", x.row(0, INTS, 6), 6);
        dueItems("0 at first", x, 0, 0, 0, 0, 0, 0, 0);
    }

    private void dropRefused() {
        checks.says(5, "BAD; NULL.");
        JingleLaws x = reader();
        x.row(0, INTS, 1);
        checks.all(BAD, "ROW", x::drop, LEAST, -1, 8, MOST);
        checks.all(NULL, "ROW", x::drop, 1, 2, 3, 4, 5, 6, 7);
        checks.due("the one that is there", x.drop(0), 1);
        checks.due("it was dropped", x.drop(0), NULL);
    }
}
