import java.util.ArrayList;
import java.util.Arrays;
import java.util.List;
import java.util.function.Consumer;

/**
 * Promises 2 to 27, call by call: each number at the least and the greatest that are told, beside them, and at the least and
 * the greatest int, in courts that are new, small, far on, full and empty. What is told is answered as PlainCourt does; what
 * is not is BAD, and then nothing has changed.
 */
public final class CallsBoundsTest {
    private static final int BAD = -1, NO = -2, FULL = -3;
    private static final Due T = new Due("CallsBoundsTest");
    /** So many refused calls leave room for what shows that nothing has changed. */
    private static final int REFUSED_AT_ONCE = 20;

    /** Of each call the least and the greatest number that are told; P is the last person, K the last thing. */
    private static final String[] CALLS = {
        "write 32 126", "person 0 P 0 4", "thing 0 K 0 3", "pass 1 20", "hide 0 K", "arrange 0 999 1 31 1 9",
        "king 0 40 0 1", "hides 1 40", "raise 0 P 0 1", "order 1 40 -1 P", "away 0 1", "seen 0 P 0 60", "tastes 0 P 0 1",
        "lasts 0 6 1 31 1 9 0 10 0 1", "content 0 40", "dull 0 1", "year 0 9999 1 60 0 1", "count 0 8"};
    private static final String[] CALLS_WITHOUT_NUMBERS = {"wipe", "fault", "lay", "undo", "bell", "forget", "keep", "back"};

    /** A court, how many persons and things there are in it, and the calls by which an object comes to it. */
    private record Scene(String name, int persons, int things, Consumer<Named> made) {
        Named kings() {
            return play(new Named(new BoredKings()));
        }

        Named plain() {
            return play(new Named(new PlainCourt()));
        }

        private Named play(Named named) {
            made.accept(named);
            return named;
        }
    }

    private static final List<Scene> SCENES = List.of(
        new Scene("new", 4, 7, x -> { }),
        new Scene("one person, no things", 1, 0, x -> x.lay("p0,31,1;")),
        new Scene("six persons, nine things", 6, 9, CallsBoundsTest::playSixAndNine),
        new Scene("in the midst", 3, 5, CallsBoundsTest::playInTheMidst),
        new Scene("all full", 4, 9, CallsBoundsTest::playFull),
        new Scene("all hidden", 2, 2, CallsBoundsTest::playHidden),
        new Scene("on day 980", 4, 7, x -> passFar(x, 49)),
        new Scene("on day 999", 4, 8, CallsBoundsTest::playLastDay));

    public static void main(String[] args) {
        for (Scene scene : SCENES) {
            T.due("persons, " + scene.name, scene.kings().ask("count", 0), scene.persons);
            T.due("things, " + scene.name, scene.kings().ask("count", 1), scene.things);
            for (String call : CALLS) {
                sweep(scene, call);
            }
            for (String call : CALLS_WITHOUT_NUMBERS) {
                asPlain(scene, call);
            }
        }
        refusedAsThingsStand();
        T.end();
    }

    private static void playSixAndNine(Named x) {
        x.lay("p0,1,5;p1,31,9;p2,3,9;p3,31,8;p0,16,9;p2,0,3;t0,1,5;t1,3,9;t1,2,9;t2,4,9;t4,31,9;t39,31,9;t40,16,9;"
            + "t41,1,9;t60,31,9;f9;");
    }

    private static void playInTheMidst(Named x) {
        x.lay("p0,1,9;p2,3,12;p3,7,6;t0,1,9;t3,3,4;t9,2,5;t12,4,9;f3;");
        x.ask("pass", 2);
        x.ask("hide", 2);
        x.ask("keep");
        x.ask("seen", 1, 1);
        x.ask("seen", 0, 0);
        x.ask("arrange", 5, 3, 3);
        x.ask("pass", 2);
        x.write("p0,0,1;q");
    }

    private static void playFull(Named x) {
        x.ask("hide", 3);
        x.ask("arrange", 12, 5, 7);
        x.ask("arrange", 999, 31, 9);
        x.ask("keep");
        for (int n = 0; n < 7; n++) {
            x.ask("pass", 1);
        }
        x.ask("keep");
        for (int n = 0; n < 8; n++) {
            x.ask("seen", n / 4, n);
        }
        x.write("f1;".repeat(63) + "p0,31,1;f9;");
    }

    private static void playHidden(Named x) {
        x.lay("p0,1,9;p0,2,9;t0,1,9;t5,3,9;");
        x.ask("hide", 0);
        x.ask("hide", 1);
    }

    private static void passFar(Named x, int times) {
        for (int n = 0; n < times; n++) {
            x.ask("pass", 20);
        }
    }

    private static void playLastDay(Named x) {
        x.ask("arrange", 999, 7, 9);
        x.ask("keep");
        passFar(x, 49);
        x.ask("pass", 19);
    }

    private static int[] numbersOf(Scene scene, String call) {
        String told = call.replace("P", "" + (scene.persons - 1)).replace("K", "" + (scene.things - 1));
        return Arrays.stream(told.split(" ")).skip(1).mapToInt(Integer::parseInt).toArray();
    }

    private static void sweep(Scene scene, String call) {
        String name = call.split(" ")[0];
        int[] told = numbersOf(scene, call);
        List<int[]> refused = new ArrayList<>();
        List<int[]> taken = new ArrayList<>();
        draw(told, new int[told.length / 2], 0, refused, taken);
        drawFarOff(told, refused);
        T.due("some of " + name + " are refused, " + scene.name, refused.isEmpty() ? 0 : 1, 1);
        for (int from = 0; from < refused.size(); from += REFUSED_AT_ONCE) {
            refuse(scene, name, refused.subList(from, Math.min(from + REFUSED_AT_ONCE, refused.size())));
        }
        for (int[] args : taken) {
            asPlain(scene, name, args);
        }
    }

    /** All calls by the bounds and the numbers beside and beyond them, parted into what is told and what is not. */
    private static void draw(int[] told, int[] args, int at, List<int[]> refused, List<int[]> taken) {
        if (at == args.length) {
            boolean isTold = true;
            for (int i = 0; i < args.length; i++) {
                isTold &= told[2 * i] <= args[i] && args[i] <= told[2 * i + 1];
            }
            (isTold ? taken : refused).add(args.clone());
            return;
        }
        int least = told[2 * at];
        int most = told[2 * at + 1];
        // five numbers at once would be too many by all six; drawFarOff has what is left out here
        int[] all = args.length > 3 ? new int[] {least - 1, least, most, most + 1}
            : new int[] {Integer.MIN_VALUE, least - 1, least, most, most + 1, Integer.MAX_VALUE};
        for (int number : Arrays.stream(all).distinct().toArray()) {
            args[at] = number;
            draw(told, args, at + 1, refused, taken);
        }
    }

    /** Each number alone the least and the greatest int. */
    private static void drawFarOff(int[] told, List<int[]> refused) {
        for (int at = 0; at < told.length / 2; at++) {
            int[] args = new int[told.length / 2];
            for (int i = 0; i < args.length; i++) {
                args[i] = told[2 * i];
            }
            args[at] = Integer.MIN_VALUE;
            refused.add(args.clone());
            args[at] = Integer.MAX_VALUE;
            refused.add(args.clone());
        }
    }

    private static void refuse(Scene scene, String name, List<int[]> calls) {
        Named kings = scene.kings();
        for (int[] args : calls) {
            T.due(name + Arrays.toString(args) + ", " + scene.name, kings.ask(name, args), BAD);
        }
        T.same("behind refused " + name + Arrays.toString(calls.get(0)) + " .., " + scene.name, kings.spend(),
            scene.kings().spend());
    }

    private static void asPlain(Scene scene, String name, int... args) {
        Named kings = scene.kings();
        Named plain = scene.plain();
        String call = name + Arrays.toString(args) + ", " + scene.name;
        T.due(call, kings.ask(name, args), plain.ask(name, args));
        T.same("behind " + call, kings.spend(), plain.spend());
    }

    private static Scene scene(String name) {
        return SCENES.stream().filter(scene -> scene.name.equals(name)).findFirst().orElseThrow();
    }

    private static void refuses(String scene, int want, String name, int... args) {
        Named kings = scene(scene).kings();
        String call = name + Arrays.toString(args) + ", " + scene;
        T.due(call, kings.ask(name, args), want);
        T.same("behind " + call, kings.spend(), scene(scene).kings().spend());
    }

    /** NO and FULL, each told by its promise, and that nothing has changed behind it. */
    private static void refusedAsThingsStand() {
        refuses("new", NO, "lay");
        refuses("in the midst", NO, "lay");
        refuses("on day 980", NO, "pass", 20);
        refuses("on day 999", NO, "pass", 1);
        refuses("on day 999", NO, "pass", 20);
        refuses("in the midst", NO, "arrange", 3, 1, 1);
        refuses("in the midst", NO, "arrange", 0, 31, 9);
        refuses("on day 999", NO, "arrange", 998, 1, 1);
        refuses("new", NO, "undo");
        refuses("six persons, nine things", NO, "undo");
        refuses("new", NO, "back");
        refuses("on day 980", NO, "back");
        refuses("all full", FULL, "write", 'p');
        refuses("all full", FULL, "write", 32);
        refuses("all full", FULL, "write", 126);
        refuses("six persons, nine things", FULL, "arrange", 0, 1, 1);
        refuses("all full", FULL, "arrange", 999, 31, 9);
        refuses("all full", FULL, "seen", 0, 0);
        refuses("all full", FULL, "seen", 3, 60);
        refuses("all full", FULL, "keep");
    }
}
