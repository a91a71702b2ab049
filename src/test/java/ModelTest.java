import java.lang.reflect.InvocationTargetException;
import java.lang.reflect.Method;
import java.util.ArrayList;
import java.util.Arrays;
import java.util.List;
import java.util.Random;

/** Runs of drawn calls: each answer must be that of PlainCourt, and nothing may be thrown. The draws are the same each time. */
public final class ModelTest {
    private static final Due T = new Due("ModelTest");
    private static final int RUNS = 2500;
    /** Of so many runs one uses its object for all the calls that it may be used for. */
    private static final int LONG_ONES = 50;
    private static final int MOST_CALLS = 512;
    /** Of each call's numbers the least and the greatest that are told. */
    private static final String[] CALLS = {
        "write 32 126", "wipe", "fault", "lay", "person 0 5 0 4", "thing 0 8 0 3",
        "pass 1 20", "pass 1 3", "hide 0 8", "hide 0 8", "arrange 0 60 1 31 1 9", "arrange 0 999 1 31 1 9", "undo",
        "king 0 40 0 1", "bell", "hides 1 40", "raise 0 5 0 1", "order 1 40 -1 5", "away 0 1",
        "seen 0 5 0 60", "forget", "tastes 0 5 0 1",
        "lasts 0 6 1 31 1 9 0 10 0 1", "content 0 40", "dull 0 1", "year 0 9999 1 60 0 1",
        "keep", "back", "count 0 8"};
    /** Calls that set much back are made seldom, so that runs get somewhere. */
    private static final List<String> SELDOM = List.of("wipe", "lay", "write", "forget");

    private final Random random;
    private final List<String> told = new ArrayList<>();
    private BoredKings kings = new BoredKings();
    private PlainCourt plain = new PlainCourt();
    private int calls;
    private boolean wrong;

    private ModelTest(long seed) {
        random = new Random(seed);
    }

    public static void main(String[] args) throws ReflectiveOperationException {
        for (int run = 0; run < RUNS; run++) {
            new ModelTest(run).run(run % LONG_ONES == 0);
        }
        T.end();
    }

    private void run(boolean isLong) throws ReflectiveOperationException {
        if (random.nextInt(8) > 0) {
            writeText(drawText());
            ask("fault");
            ask("lay");
        }
        int most = isLong ? MOST_CALLS : calls + 20 + random.nextInt(40);
        while (calls < most && !wrong) {
            drawCall();
        }
        if (!isLong) {
            askAll();
        }
    }

    /** How all stands, since drawn calls seldom ask for just what went wrong: some 80 calls. */
    private void askAll() throws ReflectiveOperationException {
        for (int what = 0; what <= 8; what++) {
            ask("count", what);
        }
        for (int i = 0; i < plain.count(0); i++) {
            for (int what = 0; what <= 4; what++) {
                ask("person", i, what);
            }
        }
        for (int k = 0; k < plain.count(1); k++) {
            for (int what = 0; what <= 3; what++) {
                ask("thing", k, what);
            }
        }
        ask("king", 0, 0);
        ask("king", 0, 1);
    }

    private int between(int least, int most) {
        return least + random.nextInt(most - least + 1);
    }

    private String drawText() {
        StringBuilder text = new StringBuilder();
        int persons = between(1, 6);
        int things = between(0, 9);
        // many things on few days, and persons who stand little, so that much goes on
        int lastDay = new int[] {60, between(0, 12), between(0, 2)}[random.nextInt(3)];
        int topics = random.nextInt(3) == 0 ? 3 : 31;
        int stands = new int[] {60, 12, 12, 4}[random.nextInt(4)];
        for (int i = 0; i < persons; i++) {
            text.append('p').append(between(0, 3)).append(',').append(between(0, 31)).append(',')
                .append(between(1, stands)).append(';');
        }
        for (int k = 0; k < things; k++) {
            text.append('t').append(between(0, lastDay)).append(',').append(between(1, topics)).append(',')
                .append(between(1, 9)).append(';');
        }
        if (random.nextInt(3) > 0) {
            text.append('f').append(between(1, random.nextBoolean() ? 9 : 2)).append(';');
        }
        if (random.nextInt(6) == 0) {
            text.setCharAt(random.nextInt(text.length()), "0123456789,;ptf x".charAt(random.nextInt(17)));
        }
        return text.toString();
    }

    private void writeText(String text) throws ReflectiveOperationException {
        for (int i = 0; i < text.length(); i++) {
            ask("write", text.charAt(i));
        }
    }

    private void drawCall() throws ReflectiveOperationException {
        String[] parts = CALLS[random.nextInt(CALLS.length)].split(" ");
        if (SELDOM.contains(parts[0]) && random.nextInt(10) > 0) {
            return;
        }
        int[] args = new int[parts.length / 2];
        for (int i = 0; i < args.length; i++) {
            args[i] = drawNumber(Integer.parseInt(parts[2 * i + 1]), Integer.parseInt(parts[2 * i + 2]));
        }
        ask(parts[0], args);
    }

    private int drawNumber(int least, int most) {
        switch (random.nextInt(40)) {
            case 0:
                return least - 1;
            case 1:
                return most + 1;
            case 2:
                return random.nextInt();
            case 3:
                return random.nextBoolean() ? Integer.MIN_VALUE : Integer.MAX_VALUE;
            case 4:
                return least;
            case 5:
                return most;
            default:
                return between(least, most);
        }
    }

    private void ask(String name, int... args) throws ReflectiveOperationException {
        if (wrong) {
            return;
        }
        calls++;
        Class<?>[] types = new Class<?>[args.length];
        Arrays.fill(types, int.class);
        Object[] boxed = Arrays.stream(args).boxed().toArray();
        Method model = PlainCourt.class.getDeclaredMethod(name, types);
        int want = (Integer) model.invoke(plain, boxed);
        String call = name + Arrays.toString(args);
        told.add(call + "=" + want);
        long got = answer(name, types, boxed);
        wrong = got != want;
        T.due(wrong ? told + " and then " + call : call, got, want);
    }

    private long answer(String name, Class<?>[] types, Object[] args) throws ReflectiveOperationException {
        try {
            return (Integer) BoredKings.class.getMethod(name, types).invoke(kings, args);
        } catch (InvocationTargetException thrown) {
            System.out.println("ModelTest: " + name + Arrays.toString(args) + " threw " + thrown.getCause());
            return Long.MIN_VALUE;
        }
    }
}
