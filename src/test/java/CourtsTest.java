/** Promises 1 to 7: a new object, THE TEXT, LAID, persons and things. */
public final class CourtsTest {
    private static final int BAD = BoredKings.BAD, NO = BoredKings.NO, FULL = BoredKings.FULL, NONE = BoredKings.NONE;
    private static final Due T = new Due("CourtsTest");

    public static void main(String[] args) {
        newObject();
        twoObjects();
        write();
        wipe();
        faultOfGoodTexts();
        faultOfBadTexts();
        faultOfTooMany();
        faultOfLongTexts();
        lay();
        layAnew();
        layNot();
        person();
        thing();
        T.end();
    }

    private static void newObject() {
        BoredKings x = new BoredKings();
        int[] counts = {4, 7, 0, 0, 0, 0, 0, 0, 2};
        for (int what = 0; what < counts.length; what++) {
            T.due("new count(" + what + ")", x.count(what), counts[what]);
        }
        int[][] persons = {{0, 3, 6, 0, 0}, {1, 5, 5, 1, 0}, {2, 12, 9, 2, 0}, {3, 6, 4, 3, 0}};
        for (int i = 0; i < persons.length; i++) {
            for (int what = 0; what < 5; what++) {
                T.due("new person(" + i + ", " + what + ")", x.person(i, what), persons[i][what]);
            }
        }
        int[][] things = {{0, 1, 3, 0}, {1, 2, 4, 0}, {2, 7, 2, 0}, {2, 8, 5, 0}, {4, 4, 6, 0}, {5, 16, 9, 0}, {7, 3, 3, 0}};
        for (int k = 0; k < things.length; k++) {
            for (int what = 0; what < 4; what++) {
                T.due("new thing(" + k + ", " + what + ")", x.thing(k, what), things[k][what]);
            }
        }
        T.due("new fault()", x.fault(), NONE);
        T.due("new undo()", x.undo(), NO);
        T.due("new back()", x.back(), NO);
        T.due("new forget()", x.forget(), 0);
        T.due("new wipe()", x.wipe(), 0);
        T.due("new lay()", x.lay(), NO);
        T.due("BAD", BAD, -1);
        T.due("NO", NO, -2);
        T.due("FULL", FULL, -3);
        T.due("NONE", NONE, -4);
    }

    /** What is done to one object does not show in another, made ahead of it or behind it. */
    private static void twoObjects() {
        Named first = new Named(new BoredKings());
        Named other = new Named(new BoredKings());
        first.lay("p1,31,60;p2,0,9;t0,31,9;t9,1,1;f9;");
        other.ask("pass", 3);
        first.ask("hide", 0);
        first.ask("seen", 1, 0);
        other.ask("hide", 4);
        first.ask("keep");
        first.ask("pass", 20);
        other.ask("seen", 1, 3);
        first.ask("order", 40, -1);
        Named alone = new Named(new BoredKings());
        alone.ask("pass", 3);
        alone.ask("hide", 4);
        alone.ask("seen", 1, 3);
        T.same("an object beside another", other.spend(), alone.spend());
        T.same("an object behind others", new Named(new BoredKings()).state(), "4 7 0 0 0 0 0 0 2 "
            + "0 3 6 0 0 1 5 5 1 0 2 12 9 2 0 3 6 4 3 0 "
            + "0 1 3 0 1 2 4 0 2 7 2 0 2 8 5 0 4 4 6 0 5 16 9 0 7 3 3 0 0 3 -4 ");
    }

    private static void write() {
        BoredKings x = new BoredKings();
        T.due("write(31)", x.write(31), BAD);
        T.due("write(127)", x.write(127), BAD);
        T.due("write(-1)", x.write(-1), BAD);
        T.due("write(least)", x.write(Integer.MIN_VALUE), BAD);
        T.due("write(most)", x.write(Integer.MAX_VALUE), BAD);
        T.due("letters", x.count(7), 0);
        T.due("write(32)", x.write(32), 1);
        T.due("write(126)", x.write(126), 2);
        for (int n = 3; n <= 200; n++) {
            T.due("write(112)", x.write(112), n);
        }
        T.due("write(112) when full", x.write(112), FULL);
        T.due("write(31) when full", x.write(31), BAD);
        T.due("letters when full", x.count(7), 200);
        T.due("wipe() when full", x.wipe(), 200);
        T.due("write(112) when wiped", x.write(112), 1);
    }

    private static void wipe() {
        BoredKings x = Due.court("p0,1,3;t5,1,1;f7;");
        x.pass(2);
        x.hide(0);
        x.keep();
        x.seen(0, 1);
        T.due("wipe()", x.wipe(), 17);
        T.due("wipe() again", x.wipe(), 0);
        T.due("fault() when wiped", x.fault(), NONE);
        T.same("what was laid", Due.state(x), "1 1 2 1 1 2 1 0 7 p0 2 t5 1 1 1 k0 0 f-4");
    }

    private static void fault(String text, int want) {
        BoredKings x = new BoredKings();
        Due.write(x, text);
        T.due("fault() of " + text, x.fault(), want);
        T.due("letters of " + text, x.count(7), text.length());
    }

    private static void faultOfGoodTexts() {
        String[] good = {"", "p0,0,1;", "p3,31,60;", "p00,00,01;", "p03,31,60;", "t0,1,1;", "t60,31,9;", "t00,01,09;",
            "f1;", "f9;", "f09;", "f1;f9;f1;", "f1;p0,0,1;t0,1,1;p0,0,1;f2;t0,1,1;"};
        for (String text : good) {
            fault(text, NONE);
        }
    }

    private static void faultOfBadTexts() {
        String[] bad = {"p4,0,1;", "p0,32,1;", "p0,0,0;", "p0,0,61;", "p0,0,99;", "p10,0,1;", "p99,99,99;",
            "t61,1,1;", "t0,0,1;", "t0,32,1;", "t0,1,0;", "t0,1,10;", "t99,1,1;", "f0;", "f00;", "f10;", "f99;",
            "p", "p0", "p0,", "p0,0", "p0,0,", "p0,0,1", "t0,1,1", "f", "f1", "f;", "p;", "t;", "f1,2;", "f1,",
            "p0,0;", "p0,0,1,1;", "p0,0,1,", "t0,1;", "t0,1,1,1;", "p,0,1;", "p0,,1;", "p0,0,;", "p000,0,1;",
            "p0,000,1;", "p0,0,001;", "t000,1,1;", "f001;", "p 0,0,1;", "p0 ,0,1;", "p0,0,1 ;", "p0;0;1;", "p0.0.1;",
            "p-1,0,1;", "p+1,0,1;", "p0,0,1:", "P0,0,1;", "T0,1,1;", "F1;", "q0,0,1;", "0", ";", ",", " ", "~", " f1;"};
        for (String text : bad) {
            fault(text, 0);
            fault("f1;" + text, 3);
            fault("p0,0,1;t10,31,9;" + text, 16);
            fault("p0,0,1;" + text + "p9,9,9;", 7);
        }
        fault("p0,0,1; p0,0,1;", 7);
        fault("p0,0,1;;", 7);
        fault("p0,0,1;\u007e", 7);
    }

    private static void faultOfTooMany() {
        String six = "p0,0,1;".repeat(6);
        fault(six, NONE);
        fault(six + "p0,0,1;", 42);
        fault(six + "t0,1,1;p0,0,1;f1;", 49);
        String nine = "t0,1,1;".repeat(9);
        fault(nine, NONE);
        fault(nine + "t0,1,1;", 63);
        fault(nine + "f1;t0,1,1;", 66);
        fault(six + nine + "f1;", NONE);
        fault(six + "p0,0,1;" + nine + "t0,1,1;", 42);
    }

    private static void faultOfLongTexts() {
        fault("f1;".repeat(66) + "f1", 198);
        fault("f1;".repeat(65) + "f01;", NONE);
        fault("f1;".repeat(64) + "f01;f01;", NONE);
        fault("p0,10,10;".repeat(6) + "t10,10,9;".repeat(9) + "f1;".repeat(21) + "f1", 198);
        fault("f1;".repeat(65) + "f0;", 195);
    }

    private static void lay() {
        BoredKings x = new BoredKings();
        Due.write(x, "t60,31,9;p3,31,60;f9;t0,1,1;p00,00,01;f01;");
        T.due("lay()", x.lay(), 2);
        T.same("laid", Due.state(x), "2 2 0 0 0 0 0 42 1 p0 0 p1 0 t60 31 9 0 t0 1 1 0 k0 1 f-4");
        T.due("person(0, 0)", x.person(0, 0), 3);
        T.due("person(0, 1)", x.person(0, 1), 31);
        T.due("person(0, 2)", x.person(0, 2), 60);
        T.due("person(1, 0)", x.person(1, 0), 0);
        T.due("person(1, 1)", x.person(1, 1), 0);
        T.due("person(1, 2)", x.person(1, 2), 1);
        T.due("lay() of six", Due.court("p0,0,1;".repeat(6)).count(0), 6);
        T.due("f without", Due.court("p0,0,1;").count(8), 2);
        T.due("f, the last one", Due.court("f3;p0,0,1;f9;f4;").count(8), 4);
        T.due("f without, behind one with", layAgain(Due.court("f3;p0,0,1;"), "p0,0,1;").count(8), 2);
        T.due("lay() without things", Due.court("p0,0,1;").count(1), 0);
    }

    private static BoredKings layAgain(BoredKings x, String text) {
        x.wipe();
        Due.write(x, text);
        x.lay();
        return x;
    }

    private static void layAnew() {
        BoredKings x = new BoredKings();
        Due.write(x, "p0,1,3;p0,1,3;t0,1,2;t1,1,2;");
        x.lay();
        x.pass(2);
        x.hide(1);
        x.arrange(9, 1, 1);
        x.keep();
        x.keep();
        x.seen(1, 1);
        T.same("ahead of lay()", Due.state(x), "2 3 2 1 1 3 2 28 2 p1 2 p0 0 t0 1 2 0 t1 1 2 1 t9 1 1 0 k1 0 f-4");
        T.due("lay() again", x.lay(), 2);
        T.same("laid again", Due.state(x), "2 2 0 0 0 0 0 28 2 p0 0 p1 0 t0 1 2 0 t1 1 2 0 k0 2 f-4");
        x.pass(1);
        T.due("interest ahead of lay()", x.king(0, 1), 3);
        T.due("lay() once more", x.lay(), 2);
        T.due("interest when laid once more", x.king(0, 1), 2);
        T.due("undo() when laid again", x.undo(), NO);
        T.due("back() when laid again", x.back(), NO);
        T.due("interest when laid again", x.king(1, 1), 3);
        T.due("tastes when laid again", x.tastes(0, 0), 32);
    }

    private static void layNot() {
        String[] texts = {"", "t0,1,1;f2;", "p0,0,1;x", "p0,0,1;".repeat(7), "p0,0,0;", "f3;"};
        for (String text : texts) {
            BoredKings x = new BoredKings();
            x.pass(3);
            x.hide(4);
            x.keep();
            x.seen(1, 3);
            Due.write(x, text);
            String was = Due.state(x);
            T.due("lay() of " + text, x.lay(), NO);
            T.same("behind lay() of " + text, Due.state(x), was);
            T.due("what was seen is left", x.tastes(0, 0), 20);
        }
    }

    private static void person() {
        BoredKings x = new BoredKings();
        int[][] wrong = {{-1, 0}, {4, 0}, {0, -1}, {0, 5}, {6, 0}, {-1, -1}, {Integer.MIN_VALUE, 0}, {Integer.MAX_VALUE, 4},
            {0, Integer.MIN_VALUE}, {3, Integer.MAX_VALUE}};
        for (int[] call : wrong) {
            T.due("person(" + call[0] + ", " + call[1] + ")", x.person(call[0], call[1]), BAD);
        }
        T.due("pass(3)", x.pass(3), 1);
        int[] places = {3, 0, 1, 2};
        int[] reigned = {3, 0, 0, 0};
        for (int i = 0; i < 4; i++) {
            T.due("place of " + i, x.person(i, 3), places[i]);
            T.due("reigned of " + i, x.person(i, 4), reigned[i]);
        }
        x.pass(2);
        T.due("reigned of 1", x.person(1, 4), 2);
        T.due("reigned of 0", x.person(0, 4), 3);
        BoredKings one = Due.court("p0,1,1;t0,1,1;t1,1,1;");
        T.due("pass(3) of one", one.pass(3), 2);
        T.due("place of one", one.person(0, 3), 0);
        T.due("reigned of one", one.person(0, 4), 3);
        T.due("person(1, 0) of one", one.person(1, 0), BAD);
    }

    private static void thing() {
        BoredKings x = new BoredKings();
        int[][] wrong = {{-1, 0}, {7, 0}, {0, -1}, {0, 4}, {9, 0}, {7, 4}, {Integer.MIN_VALUE, 0}, {Integer.MAX_VALUE, 3},
            {0, Integer.MIN_VALUE}, {6, Integer.MAX_VALUE}};
        for (int[] call : wrong) {
            T.due("thing(" + call[0] + ", " + call[1] + ")", x.thing(call[0], call[1]), BAD);
        }
        x.hide(6);
        T.due("thing(6, 3) hidden", x.thing(6, 3), 1);
        T.due("thing(5, 3) not hidden", x.thing(5, 3), 0);
        x.hide(6);
        T.due("thing(6, 3) shown", x.thing(6, 3), 0);
        x.arrange(999, 30, 8);
        T.due("thing(7, 0) arranged", x.thing(7, 0), 999);
        T.due("thing(7, 1) arranged", x.thing(7, 1), 30);
        T.due("thing(7, 2) arranged", x.thing(7, 2), 8);
        T.due("thing(7, 3) arranged", x.thing(7, 3), 0);
        T.due("thing(8, 0)", x.thing(8, 0), BAD);
        x.undo();
        T.due("thing(7, 0) undone", x.thing(7, 0), BAD);
        T.due("thing(0, 0) of none", Due.court("p0,0,1;").thing(0, 0), BAD);
    }
}
