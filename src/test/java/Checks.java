import java.io.IOException;
import java.nio.file.Files;
import java.nio.file.Path;
import java.util.Set;
import java.util.TreeSet;
import java.util.function.IntToLongFunction;

/** Counts and prints answers that are not as due. */
final class Checks {
    static final int LEAST = Integer.MIN_VALUE, MOST = Integer.MAX_VALUE;
    static final int NONE = -1000000, BAD = -1000001, STATE = -1000002, FULL = -1000003;
    static final int NULL = -1000011, PLACE = -1000012, KIND = -1000013, SIZE = -1000014, STORE = -1000015;

    private int asked;
    private int wrong;
    private String part = "";
    private final Set<Integer> promises = new TreeSet<>();
    private String document;

    void part(String name) {
        part = name;
    }

    /** Names the words of the document by which the answers behind it are due; 0 is no promise, but the terms. */
    void says(int promise, String words) {
        promises.add(promise);
        part = (promise == 0 ? "terms" : "promise " + promise) + ", '" + words + "'";
        due("these words stand in the document", stands(promise, words) ? 1 : 0, 1);
    }

    private boolean stands(int promise, String words) {
        if (document == null) {
            document = read(Path.of("../shared/DOC.md"));
        }
        int from = promise == 0 ? 0 : document.indexOf("## Promise " + promise + ":");
        int to = document.indexOf("## ", promise == 0 ? document.indexOf("## Promise 1:") : from + 1);
        return from >= 0 && to > from && document.substring(from, to).contains(words);
    }

    private static String read(Path path) {
        try {
            return Files.readString(path).replaceAll("\\s+", " ");
        } catch (IOException e) {
            throw new IllegalStateException(path + " cannot be read", e);
        }
    }

    /** Says whether the words of each promise up to the told one were named. */
    boolean namedAllPromises(int most) {
        for (int promise = 1; promise <= most; promise++) {
            if (!promises.contains(promise)) {
                System.out.println("promise " + promise + " was not named");
                return false;
            }
        }
        return true;
    }

    /** The same answer is due for each of these numbers. */
    void all(long want, String call, IntToLongFunction of, int... numbers) {
        for (int number : numbers) {
            due(call + " of " + number, of.applyAsLong(number), want);
        }
    }

    void due(String call, long got, long want) {
        asked++;
        if (got != want) {
            wrong++;
            System.out.println(part + ": " + call + " answered " + got + ", due is " + want);
        }
    }

    void end() {
        System.out.println(asked + " answers, " + wrong + " not as due");
        if (wrong != 0) {
            System.exit(1);
        }
    }

    static JingleLaws feed(JingleLaws x, String text) {
        for (int i = 0; i < text.length(); i++) {
            x.feed(text.charAt(i));
        }
        return x;
    }

    /** A new object with a CAMP that has no FAULT. */
    static JingleLaws told(String text) {
        JingleLaws x = feed(new JingleLaws(), text);
        int answer = x.camp();
        if (answer < 1) {
            throw new IllegalStateException(text + " is not a camp: " + answer);
        }
        return x;
    }

    /** Makes a ROW of ints with these ITEMS. */
    static void fill(JingleLaws x, int row, int... items) {
        x.row(row, 2, items.length);
        for (int i = 0; i < items.length; i++) {
            x.set(row, i, items[i]);
        }
    }
}
