import java.lang.reflect.Method;
import java.lang.reflect.Modifier;
import java.util.ArrayList;
import java.util.Arrays;
import java.util.List;

/** The class and the plain model side by side: each call goes to both, and their answers must be alike. */
final class Pair {
    /** What an object answers behind its 512th call is free. */
    private static final int MOST_CALLS = 512;

    final JingleLaws real = new JingleLaws();
    private final PlainModel model = new PlainModel();
    private final List<String> log = new ArrayList<>();

    /** The public methods of the class, in the order of their names. */
    static List<Method> methods() {
        List<Method> all = new ArrayList<>();
        for (Method method : JingleLaws.class.getDeclaredMethods()) {
            if (Modifier.isPublic(method.getModifiers())) {
                all.add(method);
            }
        }
        all.sort((a, b) -> a.getName().compareTo(b.getName()));
        return all;
    }

    boolean hasRoomFor(int calls) {
        return log.size() + calls <= MOST_CALLS;
    }

    int calls() {
        return log.size();
    }

    long call(String name, int... args) throws ReflectiveOperationException {
        Object[] boxed = Arrays.stream(args).boxed().toArray();
        Class<?>[] types = new Class<?>[args.length];
        Arrays.fill(types, int.class);
        long want = ((Number) PlainModel.class.getMethod(name, types).invoke(model, boxed)).longValue();
        log.add(name + Arrays.toString(args) + " " + want);
        long got = ((Number) JingleLaws.class.getMethod(name, types).invoke(real, boxed)).longValue();
        if (got != want) {
            log.forEach(System.out::println);
            System.out.println("the class answered " + got + ", due is " + want);
            System.exit(1);
        }
        return got;
    }

    void tell(String text) throws ReflectiveOperationException {
        for (int i = 0; i < text.length(); i++) {
            call("feed", text.charAt(i));
        }
        call("camp");
        call("fault");
    }
}
