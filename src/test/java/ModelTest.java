import java.lang.reflect.Method;
import java.util.List;
import java.util.Random;

/** Random runs of calls, on the class and on the plain model; the random source has a told seed. */
public final class ModelTest {
    private static final int RUNS = 600, MOST_AT_ONCE = 130, DEAR_ROTAS = 90;
    private static final int[] EDGES = {-1, 0, 1, 2, 3, 4, 5, 6, 7, 8, 9, 10, 12, 13, 19, 20, 21, 24, 25, 30, 31, 40, 41,
        60, 61, 63, 64, 127, 128, 255, 256, 999, 1000, 65535, 999999, 1000000, -1000000, -1000001,
        Integer.MAX_VALUE, Integer.MIN_VALUE};

    private final Random random;
    private final List<Method> methods = Pair.methods();
    private Pair pair;
    private int rotas;
    private int calls;

    private ModelTest(long seed) {
        random = new Random(seed);
    }

    public static void main(String[] args) throws ReflectiveOperationException {
        long seed = args.length > 0 ? Long.parseLong(args[0]) : 20261118L;
        int runs = args.length > 1 ? Integer.parseInt(args[1]) : RUNS;
        ModelTest test = new ModelTest(seed);
        for (int run = 0; run < runs; run++) {
            test.run();
        }
        System.out.println(test.calls + " calls as the model has them");
    }

    private void run() throws ReflectiveOperationException {
        pair = new Pair();
        if (random.nextInt(10) > 0) {
            pair.tell(text());
        }
        while (pair.hasRoomFor(MOST_AT_ONCE)) {
            int way = random.nextInt(100);
            if (way < 2) {
                pair.tell(random.nextInt(3) == 0 ? spoiled(text()) : text());
            } else if (way < 8) {
                hear();
            } else {
                callOf(methods.get(random.nextInt(methods.size())).getName());
            }
        }
        calls += pair.calls();
    }

    private long call(String name, int... args) throws ReflectiveOperationException {
        return pair.call(name, args);
    }

    private String text() {
        StringBuilder text = new StringBuilder();
        int loud = 10 + random.nextInt(51);
        text.append('f').append(loud).append(';');
        for (int h = 1 + random.nextInt(5); h > 0; h--) {
            text.append('h').append(random.nextInt(3) == 0 ? random.nextInt(3) : random.nextInt(21)).append(';');
        }
        String sorts = random.nextInt(3) == 0 ? "sgw" : "sgwlo";
        for (int r = 1 + random.nextInt(5); r > 0; r--) {
            int beat = random.nextInt(4) == 0 ? 0 : random.nextInt(2) == 0 ? random.nextInt(11) : random.nextInt(loud + 1);
            text.append(sorts.charAt(random.nextInt(sorts.length()))).append(beat).append(',')
                .append(1 + random.nextInt(9)).append(',').append(random.nextInt(64)).append(';');
        }
        return text.toString();
    }

    private String spoiled(String text) {
        StringBuilder other = new StringBuilder(text);
        String signs = "fhsgwlo0123456789,; xA" + (char) 0 + (char) 255;
        char sign = signs.charAt(random.nextInt(signs.length()));
        int place = random.nextInt(text.length());
        switch (random.nextInt(5)) {
            case 0 -> other.setCharAt(place, sign);
            case 1 -> other.insert(place, sign);
            case 2 -> other.deleteCharAt(place);
            case 3 -> other.setLength(place);
            default -> other.insert(place, text.substring(place));
        }
        return other.toString();
    }

    /** Fills a ROW with what will be, so that something fits; then, perhaps, something changes. */
    private void hear() throws ReflectiveOperationException {
        int rules = pair.real.count(1);
        if (rules < 1) {
            return;
        }
        int rule = random.nextInt(rules);
        int n = 1 + random.nextInt(12);
        int row = random.nextInt(8);
        int i = random.nextInt(3);
        call("row", row, random.nextInt(3), i + n);
        for (int k = 0; k < n; k++) {
            call("set", row, i + k, (int) call("ahead", rule, k + 1));
        }
        int hand = random.nextInt(pair.real.count(2));
        switch (random.nextInt(4)) {
            case 0 -> call("give", rule, random.nextInt(10));
            case 1 -> call("soup", hand, 1 + random.nextInt(20));
            default -> { }
        }
        for (int which = 0; which < 4; which++) {
            call("who", rule, which, row, i, n);
        }
        call("felt", hand, rule, row, i, n);
        call("status");
    }

    private int number(int usual) {
        int way = random.nextInt(40);
        return way == 0 ? EDGES[random.nextInt(EDGES.length)] : way == 1 ? usual : random.nextInt(Math.max(1, usual));
    }

    private void callOf(String name) throws ReflectiveOperationException {
        int rule = number(Math.max(1, pair.real.count(1)));
        int hand = number(Math.max(1, pair.real.count(2)));
        int what = number(2);
        int row = number(8);
        switch (name) {
            case "row" -> call(name, row, number(3), number(41));
            case "set" -> call(name, row, number(10), number(300));
            case "copy" -> call(name, row, number(6), number(8), number(6), number(6));
            case "drop" -> call(name, row);
            case "feed" -> call(name, number(256));
            case "camp", "fault", "undo", "status" -> call(name);
            case "hours" -> call(name, random.nextInt(8) == 0 ? 1 + number(24) : 1 + number(3));
            case "give" -> call(name, rule, number(random.nextBoolean() ? 12 : 61));
            case "play" -> call(name, hand, random.nextInt(4) == 0 ? Checks.NONE : rule);
            case "soup" -> call(name, hand, 1 + number(20));
            case "bars" -> call(name, rule, number(64));
            case "rule" -> call(name, rule, number(5));
            case "hand" -> call(name, hand, number(3));
            case "stand" -> call(name, number(5));
            case "ahead" -> call(name, rule, number(61));
            case "strong" -> call(name, hand, number(61));
            case "barred" -> call(name, number(61));
            case "when", "kind" -> call(name, rule);
            case "first", "restore", "image" -> call(name, what);
            case "hands" -> call(name, rule, 1 + number(random.nextBoolean() ? 6 : 30), what);
            case "rota" -> rota(1 + number(random.nextBoolean() ? 4 : 12), number(6) - 1);
            case "cover" -> call(name, random.nextBoolean() ? 1 << random.nextInt(6) : number(64), what);
            case "fall" -> call(name, number(64));
            case "byTurns" -> call(name, rule, number(5), 1 + number(random.nextBoolean() ? 4 : 20));
            case "share" -> call(name, hand, number(1000));
            case "who" -> call(name, rule, number(4), row, number(5), 1 + number(12));
            case "felt" -> call(name, hand, rule, row, number(5), 1 + number(12));
            case "sleep" -> call(name, rule, number(random.nextBoolean() ? 8 : 61), number(11), what);
            case "drawn" -> call(name, number(61), 1 + number(999999), what);
            case "as" -> call(name, rule, number(6));
            case "ask" -> {
                call(name, rule, what);
                for (int i = 0; i < 7; i++) {
                    call("trace", i);
                }
            }
            case "trace" -> call(name, number(8));
            case "count" -> call(name, number(8));
            default -> throw new IllegalStateException("no arguments for " + name);
        }
    }

    /** The model tries all ways by whole nights, so great ones are asked for just some times. */
    private void rota(int n, int hand) throws ReflectiveOperationException {
        double ways = Math.pow(pair.real.count(1) + 1, pair.real.count(2));
        if (ways * n > 9000) {
            if (rotas >= DEAR_ROTAS) {
                return;
            }
            rotas++;
        }
        call("rota", n, hand);
    }
}
