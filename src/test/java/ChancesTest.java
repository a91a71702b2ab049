/** Promises 18 to 24: what was seen and tastes that fit, how likely one lasts, who is content, dull days, years. */
public final class ChancesTest {
    private static final int BAD = BoredKings.BAD, FULL = BoredKings.FULL, NONE = BoredKings.NONE;
    private static final Due T = new Due("ChancesTest");

    public static void main(String[] args) {
        seen();
        forget();
        tastes();
        tastesAsTold();
        tastesWrong();
        lasts();
        lastsByKind();
        lastsWrong();
        content();
        dull();
        year();
        yearWrong();
        T.end();
    }

    private static void seen() {
        BoredKings x = new BoredKings();
        int[][] wrong = {{-1, 0}, {4, 0}, {0, -1}, {0, 61}, {Integer.MIN_VALUE, 0}, {Integer.MAX_VALUE, 0},
            {0, Integer.MIN_VALUE}, {0, Integer.MAX_VALUE}};
        for (int[] call : wrong) {
            T.due("seen(" + call[0] + ", " + call[1] + ")", x.seen(call[0], call[1]), BAD);
        }
        T.due("seen", x.count(4), 0);
        T.due("seen(0, 0)", x.seen(0, 0), 1);
        T.due("seen(3, 60)", x.seen(3, 60), 2);
        for (int n = 3; n <= 8; n++) {
            T.due("seen(1, 3)", x.seen(1, 3), n);
        }
        T.due("seen(1, 3) when full", x.seen(1, 3), FULL);
        T.due("seen(4, 3) when full", x.seen(4, 3), BAD);
        T.due("seen(1, 61) when full", x.seen(1, 61), BAD);
        T.due("seen", x.count(4), 8);
    }

    private static void forget() {
        BoredKings x = new BoredKings();
        T.due("forget() of nothing", x.forget(), 0);
        for (int n = 0; n < 8; n++) {
            x.seen(3, 0);
        }
        T.due("tastes(0, 0)", x.tastes(0, 0), 0);
        T.due("forget()", x.forget(), 8);
        T.due("seen", x.count(4), 0);
        T.due("tastes(0, 0) when forgotten", x.tastes(0, 0), 32);
        T.due("forget() again", x.forget(), 0);
        T.due("seen(0, 0)", x.seen(0, 0), 1);
    }

    private static void tastes(BoredKings x, int i, int howMany, int first) {
        T.due("tastes(" + i + ", 0)", x.tastes(i, 0), howMany);
        T.due("tastes(" + i + ", 1)", x.tastes(i, 1), first);
    }

    private static void tastes() {
        BoredKings x = Due.court("p0,1,2;p0,0,60;t0,1,2;");
        tastes(x, 0, 32, 0);
        x.seen(1, 1);
        tastes(x, 0, 16, 1);
        tastes(x, 1, 32, 0);
        x.seen(0, 1);
        tastes(x, 0, 0, NONE);
        tastes(x, 1, 0, NONE);
        BoredKings two = Due.court("p0,0,6;p0,0,60;t3,7,3;t60,8,9;");
        two.seen(0, 3);
        two.seen(1, 4);
        tastes(two, 0, 16, 3);
        tastes(two, 1, 0, NONE);
        BoredKings last = Due.court("p0,1,9;p0,1,9;t59,4,9;t60,8,9;");
        last.seen(1, 60);
        tastes(last, 0, 16, 4);
        last.forget();
        last.seen(0, 60);
        tastes(last, 0, 16, 0);
        BoredKings kinds = Due.court("p1,0,4;p2,0,11;p3,0,9;p0,0,60;t0,1,9;t1,2,9;t2,4,9;t3,8,9;");
        kinds.seen(1, 1);
        tastes(kinds, 0, 16, 1);
        BoredKings quiet = Due.court("p0,1,2;p0,1,9;t0,1,1;f1;");
        quiet.seen(0, 1);
        tastes(quiet, 0, 32, 0);
        quiet.pass(1);
        tastes(quiet, 0, 32, 0);
        BoredKings unsure = Due.court("p0,1,1;p0,1,9;t0,1,1;t1,2,1;f1;");
        unsure.seen(1, 1);
        tastes(unsure, 0, 16, 1);
        BoredKings forgotten = Due.court("p0,1,9;p0,1,9;");
        forgotten.seen(0, 0);
        forgotten.seen(1, 0);
        forgotten.forget();
        forgotten.seen(0, 0);
        tastes(forgotten, 0, 32, 0);
        BoredKings again = Due.court("p0,1,1;p0,2,1;t0,1,1;t1,2,1;t2,4,1;");
        again.seen(1, 3);
        tastes(again, 0, 20, 2);
    }

    private static void tastesAsTold() {
        BoredKings x = Due.court("p0,1,2;p0,0,60;t0,1,2;t1,2,1;");
        x.seen(1, 1);
        x.hide(0);
        tastes(x, 0, 16, 1);
        x.arrange(0, 2, 9);
        tastes(x, 0, 16, 1);
        x.pass(5);
        tastes(x, 0, 16, 1);
        x.wipe();
        Due.write(x, "p0,1,60;");
        tastes(x, 0, 16, 1);
        T.due("his taste stays", x.person(0, 1), 1);
        x.lay();
        tastes(x, 0, 32, 0);
        x.seen(0, 1);
        tastes(x, 0, 32, 0);
    }

    private static void tastesWrong() {
        BoredKings x = new BoredKings();
        int[][] wrong = {{-1, 0}, {4, 0}, {0, -1}, {0, 2}, {Integer.MIN_VALUE, 0}, {Integer.MAX_VALUE, 1},
            {0, Integer.MIN_VALUE}, {0, Integer.MAX_VALUE}};
        for (int[] call : wrong) {
            T.due("tastes(" + call[0] + ", " + call[1] + ")", x.tastes(call[0], call[1]), BAD);
        }
    }

    private static void lasts(BoredKings x, int[] args, int above, int below) {
        String call = "lasts(" + args[0] + ", " + args[1] + ", " + args[2] + ", " + args[3] + ", ";
        T.due(call + "0)", x.lasts(args[0], args[1], args[2], args[3], 0), above);
        T.due(call + "1)", x.lasts(args[0], args[1], args[2], args[3], 1), below);
    }

    private static void lasts() {
        BoredKings x = Due.court("p0,1,9;");
        lasts(x, new int[] {0, 1, 9, 10}, 1, 1);
        lasts(x, new int[] {1, 1, 9, 3}, 7, 10);
        lasts(x, new int[] {1, 1, 8, 3}, 1, 1);
        lasts(x, new int[] {2, 1, 9, 5}, 1, 4);
        lasts(x, new int[] {6, 1, 9, 1}, 531441, 1000000);
        lasts(x, new int[] {6, 1, 9, 9}, 1, 1000000);
        lasts(x, new int[] {6, 1, 9, 0}, 1, 1);
        lasts(x, new int[] {6, 1, 9, 10}, 0, 1);
        lasts(x, new int[] {6, 30, 9, 10}, 1, 1);
        lasts(x, new int[] {3, 31, 9, 4}, 27, 125);
        BoredKings both = Due.court("p0,1,10;f1;");
        lasts(both, new int[] {1, 1, 9, 5}, 1, 1);
        lasts(both, new int[] {2, 1, 9, 5}, 3, 4);
        lasts(both, new int[] {3, 1, 9, 5}, 1, 2);
        lasts(both, new int[] {2, 1, 9, 1}, 99, 100);
        BoredKings told = Due.court("p0,1,9;p0,0,60;t2,1,9;t4,2,9;");
        lasts(told, new int[] {2, 1, 1, 0}, 1, 1);
        lasts(told, new int[] {3, 1, 1, 0}, 0, 1);
        told.hide(0);
        lasts(told, new int[] {6, 1, 1, 0}, 1, 1);
        BoredKings later = Due.court("p0,1,9;t0,1,8;f1;");
        later.pass(1);
        lasts(later, new int[] {1, 1, 1, 2}, 4, 5);
    }

    private static void lastsByKind() {
        lasts(Due.court("p1,1,5;"), new int[] {1, 1, 9, 10}, 1, 1);
        lasts(Due.court("p1,1,4;"), new int[] {1, 1, 9, 10}, 0, 1);
        BoredKings curious = Due.court("p2,0,4;t0,1,1;");
        lasts(curious, new int[] {1, 1, 1, 10}, 1, 1);
        lasts(curious, new int[] {1, 2, 1, 10}, 0, 1);
        lasts(curious, new int[] {1, 3, 1, 10}, 0, 1);
        curious.hide(0);
        curious.content(0);
        lasts(curious, new int[] {1, 1, 1, 10}, 1, 1);
        BoredKings lately = Due.court("p2,0,2;t0,1,1;");
        lately.hide(0);
        lasts(lately, new int[] {1, 1, 1, 10}, 0, 1);
        BoredKings another = Due.court("p2,0,4;t0,1,1;t1,1,1;f9;");
        lasts(another, new int[] {2, 1, 1, 10}, 1, 1);
        another.hide(0);
        another.arrange(0, 2, 1);
        lasts(another, new int[] {1, 1, 1, 10}, 0, 1);
        BoredKings behind = Due.court("p2,0,4;t0,1,1;t0,3,1;");
        lasts(behind, new int[] {1, 3, 1, 0}, 0, 1);
        behind.hide(0);
        lasts(behind, new int[] {1, 3, 1, 10}, 1, 1);
        BoredKings sleepy = Due.court("p3,1,9;");
        lasts(sleepy, new int[] {3, 1, 9, 5}, 1, 4);
        sleepy.pass(2);
        lasts(sleepy, new int[] {1, 1, 9, 5}, 1, 1);
        lasts(sleepy, new int[] {2, 1, 9, 5}, 1, 2);
    }

    private static void lastsWrong() {
        BoredKings x = new BoredKings();
        int least = Integer.MIN_VALUE;
        int most = Integer.MAX_VALUE;
        int[][] wrong = {{-1, 1, 1, 5, 0}, {7, 1, 1, 5, 0}, {1, 0, 1, 5, 0}, {1, 32, 1, 5, 0}, {1, 1, 0, 5, 0},
            {1, 1, 10, 5, 0}, {1, 1, 1, -1, 0}, {1, 1, 1, 11, 0}, {1, 1, 1, 5, -1}, {1, 1, 1, 5, 2},
            {least, 1, 1, 5, 0}, {most, 1, 1, 5, 0}, {1, least, 1, 5, 0}, {1, most, 1, 5, 0}, {1, 1, least, 5, 0},
            {1, 1, most, 5, 0}, {1, 1, 1, least, 0}, {1, 1, 1, most, 0}, {1, 1, 1, 5, least}, {1, 1, 1, 5, most}};
        for (int[] call : wrong) {
            T.due("lasts" + java.util.Arrays.toString(call), x.lasts(call[0], call[1], call[2], call[3], call[4]), BAD);
        }
    }

    private static void content() {
        BoredKings x = Due.court("p0,1,9;p1,1,4;p2,1,11;p3,1,9;p0,2,1;t0,1,9;t2,1,9;t40,1,9;t41,1,9;t3,3,4;t3,1,5;");
        T.due("content(0)", x.content(0), 15);
        T.due("content(1)", x.content(1), 0);
        T.due("content(2)", x.content(2), 7);
        T.due("content(3)", x.content(3), 31);
        T.due("content(40)", x.content(40), 15);
        x.hide(0);
        T.due("content(0), 0 hidden", x.content(0), 0);
        x.pass(1);
        T.due("content(1) a day later", x.content(1), 7);
        T.due("content(40) a day later", x.content(40), 7);
        BoredKings interested = Due.court("p0,1,9;t0,1,8;t1,1,8;f1;");
        T.due("bell()", interested.bell(), 1);
        T.due("had they 0 ahead of it", interested.content(1), 0);
        int[] wrong = {-1, 41, Integer.MIN_VALUE, Integer.MAX_VALUE};
        for (int d : wrong) {
            T.due("content(" + d + ")", x.content(d), BAD);
        }
    }

    private static void dulls(String text, int howMany, int from) {
        BoredKings x = Due.court(text);
        T.due("dull(0) of " + text, x.dull(0), howMany);
        T.due("dull(1) of " + text, x.dull(1), from);
    }

    private static void dull() {
        dulls("p0,1,9;", 40, 0);
        dulls("p0,1,9;t40,1,9;", 40, 0);
        dulls("p0,1,9;t39,1,9;", 39, 0);
        dulls("p0,1,9;t0,1,9;", 39, 1);
        dulls("p0,1,9;t13,1,9;t27,1,9;", 13, 0);
        dulls("p0,1,9;t13,1,9;t28,1,9;", 14, 14);
        dulls("p0,1,9;t12,1,9;t26,1,9;", 13, 13);
        dulls("p0,1,9;t12,1,9;t25,1,9;", 14, 26);
        BoredKings x = Due.court("p0,1,9;t0,1,9;t40,1,9;");
        x.pass(1);
        x.king(40, 1);
        T.due("dull(0) a day later", x.dull(0), 39);
        T.due("dull(1) a day later", x.dull(1), 0);
        BoredKings other = Due.court("p0,1,9;p0,0,9;t0,1,9;t10,1,9;");
        other.king(40, 1);
        T.due("dull(1) behind another question", other.dull(1), 1);
        int[] wrong = {-1, 2, Integer.MIN_VALUE, Integer.MAX_VALUE};
        for (int what : wrong) {
            T.due("dull(" + what + ")", x.dull(what), BAD);
        }
    }

    private static void years(String text, int z, int n, int often, int who) {
        BoredKings x = Due.court(text);
        T.due("year(" + z + ", " + n + ", 0) of " + text, x.year(z, n, 0), often);
        T.due("year(" + z + ", " + n + ", 1) of " + text, x.year(z, n, 1), who);
    }

    /** Apart from the class: DRAW by 0 on day 0 is 0 (topic 0, strength 1), on days 1 to 3 none; by 2 on day 0 it is 29766 (1, 4). */
    private static void year() {
        years("p0,1,1;p0,0,60;", 0, 1, 1, 1);
        years("p0,1,2;p0,0,60;", 0, 1, 0, 0);
        years("p0,30,1;p0,0,60;", 0, 4, 0, 0);
        years("p0,1,1;p0,1,1;", 0, 4, 1, 1);
        years("p0,2,4;p0,0,60;", 2, 1, 1, 1);
        years("p0,2,5;p0,0,60;", 2, 1, 0, 0);
        years("p0,29,1;p0,0,60;", 2, 1, 0, 0);
        years("p2,2,7;p0,0,60;t0,2,1;", 2, 1, 1, 1);
        years("p2,2,8;p0,0,60;t0,2,1;", 2, 1, 0, 0);
        years("p2,2,8;p0,0,60;t0,1,1;", 2, 1, 1, 1);
        years("p0,0,1;p0,0,1;", 9999, 60, 0, 0);
        String five = "p0,31,1;".repeat(5);
        years(five, 0, 60, 18, 3);
        years(five, 9999, 60, 22, 2);
        years(five, 2, 4, 2, 2);
        years(five, 2, 5, 3, 3);
        years(five, 77, 59, 19, 4);
        years(five, 77, 60, 20, 0);
        years("p0,16,1;", 77, 60, 6, 0);
        years("p0,16,1;", 77, 59, 5, 0);
        years("p0,8,1;", 0, 60, 6, 0);
        years("p0,8,9;f9;", 0, 60, 2, 0);
        BoredKings now = Due.court("p0,2,5;p0,0,60;t0,2,2;");
        now.pass(1);
        T.due("with the interest there is", now.year(2, 1, 0), 1);
        T.due("from now on", now.year(2, 1, 1), 1);
        BoredKings sleepy = Due.court("p3,2,4;p0,0,60;");
        sleepy.pass(2);
        T.due("sleepy on day 2", sleepy.year(2, 1, 0), 0);
    }

    private static void yearWrong() {
        BoredKings x = new BoredKings();
        int[][] wrong = {{-1, 1, 0}, {10000, 1, 0}, {0, 0, 0}, {0, 61, 0}, {0, 1, -1}, {0, 1, 2}, {Integer.MIN_VALUE, 1, 0},
            {Integer.MAX_VALUE, 1, 0}, {0, Integer.MIN_VALUE, 0}, {0, Integer.MAX_VALUE, 0}, {0, 1, Integer.MIN_VALUE}};
        for (int[] call : wrong) {
            T.due("year" + java.util.Arrays.toString(call), x.year(call[0], call[1], call[2]), BAD);
        }
    }
}
