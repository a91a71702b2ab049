import java.lang.reflect.InvocationTargetException;
import java.lang.reflect.Method;
import java.util.Arrays;
import java.util.HashMap;
import java.util.Map;

/** An object whose calls are made by their names: BoredKings, or PlainCourt beside it. */
final class Named {
    /** What later calls answer is free, so that a test that needs more of them proves nothing. */
    private static final int MOST_CALLS = 512;
    private static final Map<String, Method> METHODS = new HashMap<>();

    private final Object object;
    private int calls;

    Named(Object object) {
        this.object = object;
    }

    int ask(String name, int... args) {
        calls++;
        if (calls > MOST_CALLS) {
            throw new IllegalStateException("more than " + MOST_CALLS + " calls of one object");
        }
        Object[] boxed = Arrays.stream(args).boxed().toArray();
        try {
            return (Integer) methodOf(name, args.length).invoke(object, boxed);
        } catch (InvocationTargetException thrown) {
            throw new IllegalStateException(name + Arrays.toString(args) + " threw", thrown.getCause());
        } catch (ReflectiveOperationException wrong) {
            throw new IllegalStateException(name + Arrays.toString(args) + " can't be called", wrong);
        }
    }

    private Method methodOf(String name, int numbers) throws ReflectiveOperationException {
        String key = object.getClass().getName() + " " + name;
        Method method = METHODS.get(key);
        if (method == null) {
            Class<?>[] types = new Class<?>[numbers];
            Arrays.fill(types, int.class);
            method = object.getClass().getDeclaredMethod(name, types);
            METHODS.put(key, method);
        }
        return method;
    }

    Named write(String text) {
        for (int i = 0; i < text.length(); i++) {
            ask("write", text.charAt(i));
        }
        return this;
    }

    /** Wipes, writes and lays a text. */
    Named lay(String text) {
        ask("wipe");
        write(text);
        if (ask("lay") < 1) {
            throw new IllegalStateException("this can't be laid: " + text);
        }
        return this;
    }

    private void tell(StringBuilder all, String name, int... args) {
        all.append(ask(name, args)).append(' ');
    }

    /** What is laid and how things stand, told by some 80 calls. */
    String state() {
        StringBuilder all = new StringBuilder();
        int persons = ask("count", 0);
        int things = ask("count", 1);
        all.append(persons).append(' ').append(things).append(' ');
        for (int what = 2; what <= 8; what++) {
            tell(all, "count", what);
        }
        for (int i = 0; i < persons; i++) {
            for (int what = 0; what <= 4; what++) {
                tell(all, "person", i, what);
            }
        }
        for (int k = 0; k < things; k++) {
            for (int what = 0; what <= 3; what++) {
                tell(all, "thing", k, what);
            }
        }
        tell(all, "king", 0, 0);
        tell(all, "king", 0, 1);
        tell(all, "fault");
        return all.toString();
    }

    private void tellShortly(StringBuilder all) {
        for (int what = 1; what <= 6; what++) {
            tell(all, "count", what);
        }
        tell(all, "king", 0, 0);
        tell(all, "king", 0, 1);
        tell(all, "person", 0, 4);
    }

    /**
     * How things stand, and what was seen, can be undone, is kept and is written, which only shows as it is used up: so
     * the object is spent behind this, and two objects that tell the same were alike.
     */
    String spend() {
        StringBuilder all = new StringBuilder(state());
        int persons = ask("count", 0);
        for (int i = 0; i < persons; i++) {
            tell(all, "tastes", i, 0);
            tell(all, "tastes", i, 1);
        }
        spendBy(all, "undo", 9);
        spendBy(all, "back", 3);
        tell(all, "lay");
        tell(all, "count", 0);
        tell(all, "count", 8);
        tell(all, "king", 0, 1);
        return all.toString();
    }

    private void spendBy(StringBuilder all, String name, int most) {
        for (int n = 0; n < most; n++) {
            int left = ask(name);
            all.append(name).append(left).append(' ');
            if (left < 0) {
                return;
            }
            tellShortly(all);
        }
    }
}
