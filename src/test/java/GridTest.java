import java.lang.reflect.Method;

/** Each method with all choices of numbers at and beyond bounds, in several states, on the class and on the model. */
public final class GridTest {
    private static final int[] EDGES = {Checks.LEAST, Checks.NONE, -2, -1, 0, 1, 2, 3, 4, 5, 6, 7, 8, 9, 10, 11, 12, 13,
        19, 20, 21, 23, 24, 25, 30, 31, 40, 41, 60, 61, 63, 64, 255, 256, 999, 1000, 999999, 1000000, Checks.MOST};
    private static final int[] SOME = {Checks.LEAST, Checks.NONE, -1, 0, 1, 3, 4, 5, 10, 12, 13, 20, 61, Checks.MOST};
    private static final int[] FEW = {Checks.LEAST, -1, 0, 1, 4, 7, 13, Checks.MOST};
    private static final String[] CAMPS = {
        "", "f10;h0;s0,1,0;", "f60;h20;h1;h0;h9;h10;s60,9,63;g1,1,1;w9,3,0;l5,5,2;o0,9,4;",
    };
    /** What it takes to begin anew. */
    private static final int MOST_TO_BEGIN = 90;

    private Pair pair;
    private int calls;

    private GridTest() {
    }

    public static void main(String[] args) throws ReflectiveOperationException {
        GridTest test = new GridTest();
        for (String camp : CAMPS) {
            for (Method method : Pair.methods()) {
                test.grid(camp, method.getName(), method.getParameterCount());
            }
        }
        System.out.println(test.calls + " calls at and beyond bounds as the model has them");
    }

    private void grid(String camp, String name, int parameters) throws ReflectiveOperationException {
        int[] edges = parameters <= 2 ? EDGES : parameters <= 3 ? SOME : FEW;
        int[] places = new int[parameters];
        begin(camp);
        boolean more = true;
        while (more) {
            if (!pair.hasRoomFor(MOST_TO_BEGIN)) {
                begin(camp);
            }
            int[] numbers = new int[parameters];
            for (int k = 0; k < parameters; k++) {
                numbers[k] = edges[places[k]];
            }
            // The model tries all ways by whole nights.
            if (!name.equals("rota") || numbers[0] < 3 || numbers[0] > 12 || pair.real.count(2) < 5) {
                pair.call(name, numbers);
                pair.call("status");
                calls++;
            }
            more = next(places, edges.length);
        }
    }

    private static boolean next(int[] places, int most) {
        for (int k = places.length - 1; k >= 0; k--) {
            places[k]++;
            if (places[k] < most) {
                return true;
            }
            places[k] = 0;
        }
        return false;
    }

    private void begin(String camp) throws ReflectiveOperationException {
        pair = new Pair();
        if (!camp.isEmpty()) {
            pair.tell(camp);
            pair.call("play", 0, 0);
            pair.call("image", 1);
        }
        pair.call("row", 0, 2, 13);
        pair.call("row", 1, 0, 5);
        pair.call("row", 7, 0, 40);
    }
}
