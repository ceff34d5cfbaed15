/** Counts and prints answers that are not as due. */
final class Checks {
    static final int NONE = -1000000, BAD = -1000001, STATE = -1000002, FULL = -1000003;
    static final int NULL = -1000011, PLACE = -1000012, KIND = -1000013, SIZE = -1000014, STORE = -1000015;

    private int asked;
    private int wrong;
    private String part = "";

    void part(String name) {
        part = name;
    }

    void due(String call, long got, long want) {
        asked++;
        if (got != want) {
            wrong++;
            System.out.println(part + ": " + call + " answered " + got + ", due is " + want);
        }
    }

    void end() {
        System.out.println(asked + " answers, " + wrong + " not as due");
        if (wrong != 0) {
            System.exit(1);
        }
    }

    static JingleLaws feed(JingleLaws x, String text) {
        for (int i = 0; i < text.length(); i++) {
            x.feed(text.charAt(i));
        }
        return x;
    }

    /** A new object with a CAMP that has no FAULT. */
    static JingleLaws told(String text) {
        JingleLaws x = feed(new JingleLaws(), text);
        int answer = x.camp();
        if (answer < 1) {
            throw new IllegalStateException(text + " is not a camp: " + answer);
        }
        return x;
    }

    /** Makes a ROW of ints with these ITEMS. */
    static void fill(JingleLaws x, int row, int... items) {
        x.row(row, 2, items.length);
        for (int i = 0; i < items.length; i++) {
            x.set(row, i, items[i]);
        }
    }
}
