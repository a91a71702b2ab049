/** Promises 12 to 17: king, bell, what to hide, what to arrange, the order of the gallery, what to look away from. */
public final class ReignsTest {
    private static final int BAD = BoredKings.BAD, NONE = BoredKings.NONE;
    private static final Due T = new Due("ReignsTest");

    public static void main(String[] args) {
        king();
        bell();
        hides();
        hidesSomeDays();
        raise();
        raiseByKind();
        raiseFar();
        order();
        orderOfSeveral();
        away();
        nothingChanges();
        T.end();
    }

    private static void king() {
        BoredKings x = Due.court("p0,1,3;p0,1,3;t0,1,2;t1,1,2;t2,1,2;t40,1,2;t41,1,9;f2;");
        int[][] want = {{0, 0, 2}, {1, 0, 3}, {2, 1, 2}, {3, 1, 1}, {4, 1, 0}, {39, 1, 0}, {40, 1, 2}};
        for (int[] day : want) {
            T.due("king(" + day[0] + ", 0)", x.king(day[0], 0), day[1]);
            T.due("king(" + day[0] + ", 1)", x.king(day[0], 1), day[2]);
        }
        x.pass(1);
        T.due("king(0, 1) a day later", x.king(0, 1), 3);
        T.due("king(1, 0) a day later", x.king(1, 0), 1);
        T.due("king(40, 1) a day later", x.king(40, 1), 10);
        int[][] wrong = {{-1, 0}, {41, 0}, {0, 2}, {0, -1}, {Integer.MIN_VALUE, 0}, {Integer.MAX_VALUE, 1},
            {0, Integer.MIN_VALUE}, {0, Integer.MAX_VALUE}};
        for (int[] call : wrong) {
            T.due("king(" + call[0] + ", " + call[1] + ")", x.king(call[0], call[1]), BAD);
        }
    }

    private static void bell() {
        T.due("on the next day", Due.court("p0,1,9;t0,1,9;").bell(), 0);
        T.due("on the 40th", Due.court("p0,1,9;t40,1,9;").bell(), 40);
        BoredKings far = Due.court("p0,1,9;t41,1,9;");
        T.due("on the 41st", far.bell(), NONE);
        far.pass(1);
        T.due("on the 40th from now", far.bell(), 40);
        far.hide(0);
        T.due("hidden", far.bell(), NONE);
        T.due("no things", Due.court("p0,31,1;").bell(), NONE);
        T.due("together", Due.court("p0,1,9;t3,1,5;t4,1,7;").bell(), 4);
        T.due("the first of two", Due.court("p0,1,9;p0,1,9;t5,1,9;t3,1,9;").bell(), 3);
    }

    private static void hides() {
        BoredKings ones = Due.court("p0,1,3;t0,1,1;t0,1,1;t0,1,1;");
        T.due("the lowest of several", ones.hides(1), 1);
        BoredKings fewest = Due.court("p0,1,3;t0,1,1;t0,1,1;t0,1,2;");
        T.due("one rather than two", fewest.hides(1), 4);
        fewest.hide(2);
        T.due("none, as one is hidden", fewest.hides(1), 0);
        fewest.hide(2);
        fewest.hide(0);
        T.due("of those not hidden", fewest.hides(1), 2);
        T.due("all", Due.court("p0,1,1;" + "t0,1,1;".repeat(9)).hides(1), 511);
        T.due("none needed", Due.court("p0,0,1;t0,31,9;").hides(40), 0);
        T.due("no things", Due.court("p0,0,1;").hides(40), 0);
        T.due("who reigns now, not the next", Due.court("p0,1,9;p0,2,1;t0,2,9;t1,1,9;").hides(2), 2);
        T.due("curious: what is shown then counts", Due.court("p2,0,4;t0,1,1;t0,3,1;t0,2,1;").hides(1), 1);
        T.due("curious: hiding the first helps not", Due.court("p2,0,2;t0,1,1;t0,1,1;").hides(1), 3);
        T.due("sleepy", Due.court("p3,1,9;t1,1,9;t2,1,9;t3,1,9;").hides(4), 5);
        BoredKings sleepy = Due.court("p3,1,9;t4,1,9;t5,1,9;t6,1,9;");
        sleepy.pass(3);
        T.due("sleepy, days later", sleepy.hides(4), 5);
        BoredKings past = Due.court("p0,1,9;t0,1,8;t1,1,5;t2,1,5;f2;");
        T.due("ahead of the first", past.hides(2), 1);
        past.pass(1);
        T.due("behind the first", past.hides(1), 2);
        T.due("for three", past.hides(3), 2);
    }

    private static void hidesSomeDays() {
        BoredKings x = Due.court("p0,1,9;t40,1,9;");
        T.due("days 0 to 39", x.hides(40), 0);
        x.pass(1);
        T.due("days 1 to 40", x.hides(40), 1);
        T.due("days 1 to 39", x.hides(39), 0);
        T.due("day 1", x.hides(1), 0);
        int[] wrong = {0, 41, -1, Integer.MIN_VALUE, Integer.MAX_VALUE};
        for (int n : wrong) {
            T.due("hides(" + n + ")", x.hides(n), BAD);
        }
    }

    private static void raise(String text, int i, int what, int day) {
        BoredKings x = Due.court(text);
        T.due("raise(" + i + ", 0) of " + text, x.raise(i, 0), what);
        T.due("raise(" + i + ", 1) of " + text, x.raise(i, 1), day);
    }

    private static void raise() {
        raise("p0,31,1;p0,0,60;", 0, 1000, 0);
        raise("p0,1,9;p0,0,60;", 1, 0, 1);
        raise("p0,1,10;p0,0,60;", 1, NONE, NONE);
        raise("p0,6,9;p0,0,60;", 1, 1, 1);
        raise("p0,16,9;p0,0,60;", 1, 4, 1);
        raise("p0,0,60;p0,0,60;", 1, NONE, NONE);
        raise("p0,1,9;p0,1,9;p0,0,60;t0,1,9;", 2, 10, 2);
        raise("p0,1,9;p0,0,60;t0,1,9;", 1, 1000, 1);
        raise("p0,1,9;p0,0,60;t5,1,9;", 1, 0, 1);
        raise("p0,1,12;p0,0,60;t3,1,3;", 1, 30, 4);
        raise("p0,1,12;p0,0,60;t3,1,3;f1;", 1, 0, 4);
        raise("p0,1,9;p0,2,9;p0,0,60;t3,1,9;t6,3,4;", 2, 41, 5);
        raise("p0,1,1;p0,1,1;t0,1,1;t1,1,1;", 0, 1000, 0);
        BoredKings nine = Due.court("p0,1,60;p0,2,60;p0,1,1;" + "t0,1,9;".repeat(7) + "t1,16,1;t1,16,1;");
        T.due("with nine things already", nine.raise(2, 0), NONE);
        T.due("with nine things already", nine.raise(1, 1), 1);
        BoredKings hidden = Due.court("p0,1,9;p0,0,60;t0,1,9;");
        hidden.hide(0);
        T.due("the hidden one does not help", hidden.raise(1, 0), 0);
        BoredKings later = Due.court("p0,1,13;p0,0,60;t0,1,8;");
        later.pass(1);
        T.due("with the interest there is", later.raise(1, 0), 0);
        T.due("with the interest there is", later.raise(1, 1), 1);
        int[][] wrong = {{-1, 0}, {2, 0}, {0, -1}, {0, 2}, {1, 2}, {Integer.MIN_VALUE, 0}, {Integer.MAX_VALUE, 1}};
        for (int[] call : wrong) {
            T.due("raise(" + call[0] + ", " + call[1] + ")", later.raise(call[0], call[1]), BAD);
        }
    }

    private static void raiseByKind() {
        raise("p1,1,4;p0,0,60;", 1, 0, 1);
        raise("p1,1,5;p0,0,60;", 1, NONE, NONE);
        raise("p2,0,2;p0,0,60;", 1, 0, 1);
        raise("p2,0,3;p0,0,60;", 1, NONE, NONE);
        raise("p2,2,11;p0,0,60;", 1, 1, 1);
        raise("p2,0,4;p0,0,60;t0,1,1;", 1, 1, 1);
        raise("p2,1,14;p0,0,60;t0,1,1;", 1, NONE, NONE);
        raise("p2,0,4;p0,0,60;t0,31,1;", 1, NONE, NONE);
        BoredKings x = Due.court("p3,1,9;p0,0,60;");
        x.pass(2);
        T.due("sleepy on day 2", x.raise(1, 0), 10);
        T.due("sleepy on day 2", x.raise(1, 1), 2);
    }

    private static void raiseFar() {
        raise("p0,1,10;p0,0,60;t19,1,1;", 1, 190, 20);
        raise("p0,1,10;p0,0,60;t20,1,1;", 1, NONE, NONE);
        raise("p0,1,60;p0,0,1;" + "t39,1,9;".repeat(7), 1, 1000, 40);
        raise("p0,1,60;p0,0,1;" + "t40,1,9;".repeat(7), 1, NONE, NONE);
        raise("p0,1,60;p0,0,1;" + "t39,1,9;".repeat(6) + "f1;", 1, 0, 40);
    }

    private static void orders(BoredKings x, int n, int often, int... who) {
        T.due("order(" + n + ", -1)", x.order(n, -1), often);
        for (int k = 0; k < who.length; k++) {
            T.due("order(" + n + ", " + k + ")", x.order(n, k), who[k]);
        }
        T.due("order(" + n + ", " + who.length + ")", x.order(n, who.length), BAD);
        T.due("order(" + n + ", -2)", x.order(n, -2), BAD);
    }

    private static void order() {
        orders(new BoredKings(), 3, 0, 1, 0, 2, 3);
        orders(Due.court("p0,1,9;"), 1, 0, 0);
        orders(Due.court("p0,1,9;t0,1,9;"), 40, 1, 0);
        orders(Due.court("p0,1,9;p0,3,9;p0,2,9;t0,1,9;t1,2,9;"), 2, 1, 1, 0, 2);
        orders(Due.court("p0,1,9;p0,3,9;p0,2,9;t0,1,9;t1,2,9;"), 1, 0, 2, 0, 1);
        orders(Due.court("p0,3,9;p0,3,9;p0,2,9;t0,3,9;t1,2,9;t2,1,9;"), 3, 2, 0, 1, 2);
        orders(Due.court("p0,1,1;p0,3,1;p0,1,1;t0,3,9;t1,2,9;"), 2, 1, 0, 2, 1);
        orders(Due.court("p0,1,9;p0,0,9;t39,1,9;"), 39, 0, 0, 1);
        orders(Due.court("p0,1,9;p0,0,9;t39,1,9;"), 40, 0, 1, 0);
        BoredKings x = new BoredKings();
        int[][] wrong = {{0, 0}, {41, 0}, {-1, -1}, {1, 4}, {1, -2}, {Integer.MIN_VALUE, 0}, {Integer.MAX_VALUE, 0},
            {1, Integer.MIN_VALUE}, {1, Integer.MAX_VALUE}};
        for (int[] call : wrong) {
            T.due("order(" + call[0] + ", " + call[1] + ")", x.order(call[0], call[1]), BAD);
        }
    }

    private static void orderOfSeveral() {
        orders(Due.court("p0,0,1;p0,0,1;p0,0,1;p0,0,1;p0,0,1;p0,0,1;"), 40, 0, 0, 1, 2, 3, 4, 5);
        orders(Due.court("p0,1,1;p0,1,1;p0,1,1;p0,1,1;p0,1,1;p0,0,1;t0,1,1;"), 40, 0, 5, 0, 1, 2, 3, 4);
        BoredKings last = Due.court("p0,31,1;p0,30,1;p0,2,1;p0,17,1;p0,9,1;p0,13,1;t0,16,1;t1,14,1;t2,22,1;t3,28,1;"
            + "t4,14,1;t5,23,1;t6,28,1;t7,2,1;t8,1,1;");
        orders(last, 9, 4, 5, 4, 3, 2, 1, 0);
        BoredKings zero = Due.court("p0,0,9;p0,1,2;t0,1,1;t0,2,9;f1;");
        zero.arrange(0, 8, 9);
        orders(zero, 1, 0, 0, 1);
        BoredKings other = Due.court("p0,2,1;p0,1,2;t0,3,1;f1;");
        orders(other, 1, 0, 1, 0);
        BoredKings interested = Due.court("p0,1,4;p0,1,4;t0,1,3;t1,1,1;f1;");
        interested.pass(1);
        orders(interested, 1, 0, 1, 0);
        BoredKings next = Due.court("p0,1,1;p0,0,1;t0,1,1;");
        next.pass(1);
        orders(next, 1, 0, 0, 1);
        BoredKings fresh = Due.court("p0,1,9;p0,1,4;t0,1,9;t1,1,3;t2,1,1;t2,2,1;f1;");
        fresh.pass(2);
        T.due("1 reigns with 3", fresh.king(0, 0), 1);
        orders(fresh, 1, 0, 0, 1);
        BoredKings hidden = Due.court("p0,1,9;p0,0,9;t0,1,9;");
        hidden.hide(0);
        orders(hidden, 40, 0, 0, 1);
    }

    private static void away() {
        BoredKings x = Due.court("p0,1,9;p0,1,9;t5,1,9;t3,1,9;t7,2,1;");
        T.due("away(0)", x.away(0), 1);
        T.due("away(1)", x.away(1), 5);
        x.hide(1);
        T.due("away(0), 1 hidden", x.away(0), 0);
        T.due("away(1), 1 hidden", x.away(1), 41);
        x.hide(0);
        T.due("away(0), 1 and 0 hidden", x.away(0), 2);
        T.due("away(1), 1 and 0 hidden", x.away(1), 41);
        x.hide(2);
        T.due("away(0), all hidden", x.away(0), NONE);
        T.due("away(1), all hidden", x.away(1), NONE);
        int[] wrong = {-1, 2, Integer.MIN_VALUE, Integer.MAX_VALUE};
        for (int what : wrong) {
            T.due("away(" + what + "), all hidden", x.away(what), BAD);
        }
        T.due("away(0), no things", Due.court("p0,1,1;").away(0), NONE);
        BoredKings several = Due.court("p0,1,9;t4,1,9;t4,1,9;t4,2,9;");
        T.due("of several the first", several.away(0), 0);
        T.due("of several the first", several.away(1), 4);
        BoredKings far = Due.court("p0,1,9;t40,1,9;t40,1,9;t41,1,9;");
        T.due("on the 40th", far.away(1), 40);
        far.hide(0);
        T.due("on the 41st", far.away(0), 1);
        T.due("on the 41st", far.away(1), 41);
        BoredKings past = Due.court("p0,1,60;t0,1,1;t3,1,1;");
        past.pass(2);
        T.due("one gone by is the first, too", past.away(0), 0);
        BoredKings curious = Due.court("p2,0,4;t1,1,1;t1,3,1;t1,2,1;");
        T.due("what is shown then counts", curious.away(0), 0);
        T.due("what is shown then counts", curious.away(1), 41);
    }

    private static void nothingChanges() {
        BoredKings x = new BoredKings();
        x.pass(1);
        x.hide(5);
        x.arrange(6, 5, 9);
        x.keep();
        x.seen(1, 3);
        String was = Due.state(x);
        x.king(40, 0);
        x.bell();
        x.hides(40);
        x.raise(3, 0);
        x.order(40, -1);
        x.away(0);
        x.tastes(0, 0);
        x.lasts(6, 1, 9, 5, 0);
        x.content(40);
        x.dull(0);
        x.year(9999, 60, 0);
        x.fault();
        T.same("behind what only asks", Due.state(x), was);
        T.due("tastes are left", x.person(0, 1), 3);
    }
}
