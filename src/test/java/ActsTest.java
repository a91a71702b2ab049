/** Promises 8 to 11 and 25 to 27: days go by, things are hidden and arranged, undone, kept; counts. */
public final class ActsTest {
    private static final int BAD = BoredKings.BAD, NO = BoredKings.NO, FULL = BoredKings.FULL;
    private static final Due T = new Due("ActsTest");

    public static void main(String[] args) {
        kinds();
        fading();
        bellAndGallery();
        pass();
        passFar();
        hide();
        arrange();
        arrangeNot();
        undo();
        undoInterest();
        undoLastEight();
        undoOfMany();
        undoAllOfMany();
        keepAndBack();
        keptAndUndone();
        count();
        T.end();
    }

    /** The interest of each day from now, as king tells it. */
    private static void interests(String text, int... want) {
        BoredKings x = Due.court(text);
        for (int d = 0; d < want.length; d++) {
            T.due("king(" + d + ", 1) of " + text, x.king(d, 1), want[d]);
        }
    }

    private static void kinds() {
        interests("p0,3,60;t0,1,3;t0,3,3;t0,4,9;f1;", 9, 9);
        interests("p1,3,60;t0,1,3;t0,2,3;t1,3,3;f1;", 2, 5, 5);
        interests("p1,31,60;t0,1,1;t0,31,1;f1;", 2);
        interests("p2,0,60;t0,1,1;t0,1,1;t0,3,1;t1,3,1;t2,2,1;t2,1,1;t3,1,1;t3,3,1;f1;", 4, 6, 10, 14);
        interests("p2,1,60;t0,1,5;t0,1,4;t0,30,1;f1;", 13);
        interests("p3,1,60;t0,1,5;t1,1,5;t2,1,5;t5,1,5;t6,1,5;t8,1,5;f1;", 5, 10, 10, 10, 10, 10, 15, 15, 15);
        interests("p0,0,1;t0,31,9;t1,31,9;", 0, 0);
        BoredKings hidden = Due.court("p2,0,60;t0,1,1;t0,3,1;t0,2,1;f1;");
        T.due("curious", hidden.king(0, 1), 4);
        hidden.hide(1);
        T.due("curious, 1 hidden", hidden.king(0, 1), 4);
        hidden.hide(1);
        hidden.hide(0);
        T.due("curious, 0 hidden", hidden.king(0, 1), 2);
        BoredKings sleepy = Due.court("p3,1,60;t2,1,5;t3,1,5;f1;");
        sleepy.pass(1);
        T.due("sleepy on day 2, 1 from now", sleepy.king(1, 1), 0);
        T.due("sleepy on day 3, 2 from now", sleepy.king(2, 1), 5);
    }

    private static void fading() {
        interests("p0,1,60;t0,1,9;t1,1,1;f4;", 9, 3, 0);
        interests("p0,1,60;t0,1,9;", 9, 4, 2, 1, 0);
        interests("p0,1,60;t0,1,9;f1;", 9, 9, 9);
        interests("p0,1,60;t0,1,9;f9;", 9, 1, 0);
        interests("p0,3,60;t0,3,9;t0,3,9;f3;", 36, 12, 4, 1, 0);
    }

    private static void bellAndGallery() {
        BoredKings least = Due.court("p0,1,9;p0,1,10;t0,1,9;t1,1,9;");
        T.due("L rings", least.pass(1), 1);
        T.due("the next one reigns", least.person(1, 3), 0);
        T.due("the other one is behind", least.person(0, 3), 1);
        T.due("less than L does not ring", least.pass(1), 0);
        BoredKings three = Due.court("p0,1,1;p0,1,1;p0,1,1;t0,1,1;t1,1,1;t2,1,1;t3,1,1;");
        for (int d = 0; d < 4; d++) {
            T.due("who reigns on " + d, three.king(d, 0), d % 3);
            T.due("his interest on " + d, three.king(d, 1), 1);
        }
        T.due("four bells", three.pass(4), 4);
        T.due("place of 0", three.person(0, 3), 2);
        T.due("place of 1", three.person(1, 3), 0);
        T.due("place of 2", three.person(2, 3), 1);
        T.due("0 reigned twice", three.person(0, 4), 2);
        interests("p0,1,9;p0,1,20;t0,1,9;t1,1,9;t2,1,1;f1;", 9, 9, 10, 10);
        interests("p0,1,9;t0,1,9;t1,1,5;f1;", 9, 5, 5);
    }

    private static void pass() {
        BoredKings x = new BoredKings();
        String was = Due.state(x);
        int[] wrong = {0, 21, -1, Integer.MIN_VALUE, Integer.MAX_VALUE};
        for (int n : wrong) {
            T.due("pass(" + n + ")", x.pass(n), BAD);
        }
        T.same("behind wrong pass", Due.state(x), was);
        T.due("pass(1)", x.pass(1), 0);
        T.due("the day", x.count(2), 1);
        T.due("the interest goes on", x.king(0, 1), 5);
        T.due("pass(20)", x.pass(20), 1);
        T.due("the day", x.count(2), 21);
        T.due("undone can be", x.count(5), 2);
        T.due("reigned of 0", x.person(0, 4), 3);
        T.due("reigned of 1", x.person(1, 4), 18);
        BoredKings hidden = new BoredKings();
        hidden.hide(1);
        T.due("pass(3) with 1 hidden", hidden.pass(3), 0);
        T.due("pass(5) with 1 hidden", hidden.pass(5), 1);
    }

    private static void passFar() {
        BoredKings x = new BoredKings();
        for (int i = 0; i < 49; i++) {
            x.pass(20);
        }
        T.due("the day", x.count(2), 980);
        T.due("pass(20) to 1000", x.pass(20), NO);
        T.due("pass(21) to 1001", x.pass(21), BAD);
        T.due("the day is left", x.count(2), 980);
        T.due("pass(19) to 999", x.pass(19), 0);
        T.due("the day", x.count(2), 999);
        T.due("pass(1) to 1000", x.pass(1), NO);
        T.due("pass(0)", x.pass(0), BAD);
        T.due("undone can be", x.count(5), 8);
        T.due("arrange(998, 1, 1)", x.arrange(998, 1, 1), NO);
        T.due("arrange(999, 1, 9)", x.arrange(999, 1, 9), 7);
        T.due("arrange(1000, 1, 9)", x.arrange(1000, 1, 9), BAD);
        T.due("king(0, 1) on 999", x.king(0, 1), 4);
        T.due("king(40, 0) on 999", x.king(40, 0), 1);
        T.due("reigned of 1", x.person(1, 4), 996);
    }

    private static void hide() {
        BoredKings x = new BoredKings();
        String was = Due.state(x);
        int[] wrong = {-1, 7, 8, 9, 31, 32, Integer.MIN_VALUE, Integer.MAX_VALUE};
        for (int k : wrong) {
            T.due("hide(" + k + ")", x.hide(k), BAD);
        }
        T.same("behind wrong hide", Due.state(x), was);
        T.due("hide(0)", x.hide(0), 1);
        T.due("hide(6)", x.hide(6), 1);
        T.due("hidden", x.count(3), 2);
        T.due("interest without 0", x.king(0, 1), 0);
        T.due("hide(0) again", x.hide(0), 0);
        T.due("hidden", x.count(3), 1);
        T.due("interest with 0", x.king(0, 1), 3);
        T.due("undone can be", x.count(5), 3);
        x.pass(1);
        T.due("hide(0), gone by", x.hide(0), 1);
        T.due("the past stays", x.king(0, 1), 5);
        T.due("no things", Due.court("p0,0,1;").hide(0), BAD);
    }

    private static void arrange() {
        BoredKings x = new BoredKings();
        T.due("arrange(0, 1, 1)", x.arrange(0, 1, 1), 7);
        T.due("interest with one more", x.king(0, 1), 4);
        T.due("arrange(999, 31, 9)", x.arrange(999, 31, 9), 8);
        T.due("things", x.count(1), 9);
        T.due("undone can be", x.count(5), 2);
        T.due("full", x.arrange(0, 1, 1), FULL);
        T.due("full, but wrong", x.arrange(0, 0, 1), BAD);
        T.due("things", x.count(1), 9);
        T.due("undone can be", x.count(5), 2);
        x.pass(4);
        T.due("full, but gone by", x.arrange(3, 1, 1), NO);
        T.due("gone by, but wrong", x.arrange(3, 1, 10), BAD);
        T.due("full on the day to come", x.arrange(4, 1, 1), FULL);
        BoredKings nine = Due.court("p0,0,1;" + "t0,1,1;".repeat(9));
        T.due("nine told are full", nine.arrange(0, 1, 1), FULL);
        T.due("eight told are not", Due.court("p0,0,1;" + "t0,1,1;".repeat(8)).arrange(0, 1, 1), 8);
        T.due("none told", Due.court("p0,0,1;").arrange(61, 1, 1), 0);
        BoredKings hidden = new BoredKings();
        hidden.hide(6);
        T.due("arrange with hidden ones", hidden.arrange(0, 1, 1), 7);
        T.due("it is not hidden", hidden.thing(7, 3), 0);
        T.due("hide(7)", hidden.hide(7), 1);
        hidden.undo();
        hidden.undo();
        T.due("arrange where one was", hidden.arrange(1, 2, 3), 7);
        T.due("it is not hidden", hidden.thing(7, 3), 0);
    }

    private static void arrangeNot() {
        BoredKings x = new BoredKings();
        x.pass(2);
        String was = Due.state(x);
        int[][] wrong = {{-1, 1, 1}, {1000, 1, 1}, {5, 0, 1}, {5, 32, 1}, {5, -1, 1}, {5, 1, 0}, {5, 1, 10}, {5, 1, -1},
            {1, 0, 1}, {1, 1, 0}, {Integer.MIN_VALUE, 1, 1}, {Integer.MAX_VALUE, 1, 1}, {5, Integer.MAX_VALUE, 1},
            {5, Integer.MIN_VALUE, 1}, {5, 1, Integer.MAX_VALUE}, {5, 1, Integer.MIN_VALUE}};
        for (int[] call : wrong) {
            T.due("arrange(" + call[0] + ", " + call[1] + ", " + call[2] + ")", x.arrange(call[0], call[1], call[2]), BAD);
        }
        T.due("arrange(1, 1, 1)", x.arrange(1, 1, 1), NO);
        T.due("arrange(0, 31, 9)", x.arrange(0, 31, 9), NO);
        T.same("behind wrong arrange", Due.state(x), was);
        T.due("arrange(2, 31, 9)", x.arrange(2, 31, 9), 7);
    }

    private static void undo() {
        BoredKings x = new BoredKings();
        T.due("undo() of nothing", x.undo(), NO);
        String[] states = new String[5];
        states[0] = Due.state(x);
        x.hide(1);
        states[1] = Due.state(x);
        x.pass(8);
        states[2] = Due.state(x);
        x.arrange(9, 4, 4);
        states[3] = Due.state(x);
        x.hide(1);
        for (int left = 3; left >= 0; left--) {
            T.due("undo()", x.undo(), left);
            T.same("as it was", Due.state(x), states[left]);
        }
        T.due("undo() of nothing more", x.undo(), NO);
        T.same("as it was", Due.state(x), states[0]);
        BoredKings wrong = new BoredKings();
        wrong.hide(7);
        wrong.pass(0);
        wrong.arrange(0, 0, 0);
        T.due("undo() of what was not done", wrong.undo(), NO);
        BoredKings other = new BoredKings();
        other.seen(1, 3);
        other.keep();
        T.due("undo() of what can't be", other.undo(), NO);
        other.hide(0);
        T.due("undo() of hide", other.undo(), 0);
        T.due("seen is left", other.count(4), 1);
        T.due("kept is left", other.count(6), 1);
    }

    private static void undoInterest() {
        BoredKings x = Due.court("p0,1,60;t0,1,8;t1,1,8;t2,1,8;f1;");
        x.pass(1);
        x.pass(1);
        T.due("interest", x.king(0, 1), 24);
        x.keep();
        x.undo();
        T.due("interest when undone", x.king(0, 1), 16);
        x.undo();
        T.due("interest when all is undone", x.king(0, 1), 8);
        x.back();
        T.due("interest as kept", x.king(0, 1), 24);
        T.due("reigned as kept", x.person(0, 4), 2);
    }

    private static void undoAllOfMany() {
        for (int acts = 8; acts <= 18; acts++) {
            BoredKings x = new BoredKings();
            for (int n = 0; n < acts; n++) {
                x.pass(1);
            }
            for (int left = 7; left >= 0; left--) {
                T.due("undo() of " + acts, x.undo(), left);
            }
            T.due("undo() of " + acts, x.undo(), NO);
            T.due("the day", x.count(2), acts - 8);
        }
    }

    private static void undoOfMany() {
        BoredKings x = new BoredKings();
        for (int n = 1; n <= 40; n++) {
            x.pass(1 + n % 3);
            int day = x.count(2);
            x.pass(5);
            T.due("undo() behind " + n, x.undo(), Math.min(n, 7));
            T.due("the day behind " + n, x.count(2), day);
        }
        for (int n = 0; n < 7; n++) {
            x.undo();
        }
        T.due("undone can be", x.count(5), 0);
        T.due("the day", x.count(2), 80 - 14);
    }

    private static void undoLastEight() {
        BoredKings x = new BoredKings();
        for (int n = 1; n <= 11; n++) {
            x.pass(n);
            T.due("undone can be behind " + n, x.count(5), Math.min(n, 8));
        }
        int day = 66;
        for (int n = 11; n >= 4; n--) {
            T.due("undo()", x.undo(), n - 4);
            day -= n;
            T.due("the day", x.count(2), day);
        }
        T.due("undo() of the ninth", x.undo(), NO);
        T.due("the day", x.count(2), 6);
        x.hide(0);
        x.hide(1);
        T.due("undone can be", x.count(5), 2);
        T.due("undo()", x.undo(), 1);
        T.due("1 is shown", x.thing(1, 3), 0);
        T.due("0 is hidden", x.thing(0, 3), 1);
    }

    private static void keepAndBack() {
        BoredKings x = new BoredKings();
        T.due("back() of nothing", x.back(), NO);
        x.pass(4);
        x.hide(5);
        T.due("keep()", x.keep(), 1);
        T.due("king(0, 1)", x.king(0, 1), 3);
        x.pass(4);
        x.hide(6);
        x.arrange(9, 5, 9);
        T.due("keep()", x.keep(), 2);
        T.due("keep() when full", x.keep(), FULL);
        T.due("kept", x.count(6), 2);
        x.pass(2);
        x.arrange(10, 5, 9);
        T.due("back()", x.back(), 1);
        T.same("as kept last", Due.state(x), "4 8 8 2 0 0 1 0 2 p3 3 p0 5 p1 0 p2 0 "
            + "t0 1 3 0 t1 2 4 0 t2 7 2 0 t2 8 5 0 t4 4 6 0 t5 16 9 1 t7 3 3 1 t9 5 9 0 k1 0 f-4");
        T.due("undo() then", x.undo(), NO);
        T.due("back()", x.back(), 0);
        T.same("as kept first", Due.state(x), "4 7 4 1 0 0 0 0 2 p3 3 p0 1 p1 0 p2 0 "
            + "t0 1 3 0 t1 2 4 0 t2 7 2 0 t2 8 5 0 t4 4 6 0 t5 16 9 1 t7 3 3 0 k1 3 f-4");
        T.due("back() of nothing more", x.back(), NO);
        T.due("keep() again", x.keep(), 1);
    }

    private static void keptAndUndone() {
        BoredKings x = new BoredKings();
        x.pass(2);
        x.keep();
        T.due("keep() leaves what can be undone", x.count(5), 1);
        T.due("undo() ahead of what is kept", x.undo(), 0);
        T.due("the day", x.count(2), 0);
        T.due("kept", x.count(6), 1);
        x.seen(1, 3);
        Due.write(x, "p0");
        x.hide(0);
        T.due("back() to a later day", x.back(), 0);
        T.due("the day", x.count(2), 2);
        T.due("the interest", x.king(0, 1), 6);
        T.due("0 is shown", x.thing(0, 3), 0);
        T.due("seen is left", x.count(4), 1);
        T.due("the text is left", x.count(7), 2);
        x.hide(3);
        T.due("back() of nothing", x.back(), NO);
        T.due("what can be undone is left", x.count(5), 1);
    }

    private static void count() {
        BoredKings x = new BoredKings();
        int[] wrong = {-1, 9, Integer.MIN_VALUE, Integer.MAX_VALUE};
        for (int what : wrong) {
            T.due("count(" + what + ")", x.count(what), BAD);
        }
        Due.write(x, "f7;p0,1,2;t3,1,1;");
        T.due("letters", x.count(7), 17);
        T.due("F of what is laid", x.count(8), 2);
        x.lay();
        x.arrange(3, 1, 1);
        x.hide(0);
        x.hide(1);
        x.pass(3);
        x.seen(0, 1);
        x.seen(0, 1);
        x.keep();
        int[] want = {1, 2, 3, 2, 2, 4, 1, 17, 7};
        for (int what = 0; what < want.length; what++) {
            T.due("count(" + what + ")", x.count(what), want[what]);
        }
    }
}
