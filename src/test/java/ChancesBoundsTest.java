import java.math.BigInteger;

/** 'Terms', 4, and what stands behind it: each bound that is told of SEEN, TASTES, LASTS, CONTENT, DULL, A YEAR, KEPT, BAD. */
public final class ChancesBoundsTest {
    private static final int BAD = BoredKings.BAD, NO = BoredKings.NO, FULL = BoredKings.FULL, NONE = BoredKings.NONE;
    private static final int LEAST = Integer.MIN_VALUE, MOST = Integer.MAX_VALUE;
    private static final int[] NEITHER = {LEAST, -2, -1, 2, 3, MOST};
    private static final Due T = new Due("ChancesBoundsTest");

    public static void main(String[] args) {
        seenEightAtMost();
        seenOnDaysZeroToSixty();
        seenOfPersonsThereAre();
        forgottenAndSeenAgain();
        tastesOfThirtyTwo();
        tastesUpToTheLastDay();
        tastesAsTheTextTells();
        lastsAsThingsStand();
        lastsBehindAllOthers();
        lastsByDaysAndChance();
        lastsByTopics();
        lastsByStrength();
        lastsByNumbersTold();
        contentOnDaysZeroToForty();
        contentFromStandingOn();
        dullOfFortyDays();
        dullOfSeveralTheFirst();
        yearsByNumbersTold();
        yearsByDraws();
        yearsByTopicAndStrength();
        yearsBehindAllOthers();
        keptTwoAtMost();
        keptLastComesFirst();
        backLeavesNothingToUndo();
        countsZeroToEight();
        codes();
        ofSeveralTheFirst();
        T.end();
    }

    /** "SEEN (8 at most)" */
    private static void seenEightAtMost() {
        BoredKings x = new BoredKings();
        T.due("seen at first", x.count(4), 0);
        for (int n = 1; n <= 8; n++) {
            T.due("seen(0, 0)", x.seen(0, 0), n);
            T.due("seen", x.count(4), n);
        }
        T.due("tastes by eight", x.tastes(0, 0), 32);
        T.due("the ninth", x.seen(3, 0), FULL);
        T.due("seen", x.count(4), 8);
        T.due("the ninth does not tell", x.tastes(0, 0), 32);
        x.forget();
        for (int n = 1; n <= 7; n++) {
            x.seen(0, 0);
        }
        T.due("the eighth", x.seen(3, 0), 8);
        T.due("the eighth tells", x.tastes(0, 0), 0);
        for (int told = 1; told <= 8; told++) {
            BoredKings later = Due.court("p0,0,9;p0,0,60;t0,1,9;t59,2,9;");
            for (int n = 1; n < told; n++) {
                later.seen(0, 0);
            }
            T.due("seen(0, 60)", later.seen(0, 60), told);
            tastes(later, 0, 8, 0);
            T.due("of 32 without it", later.forget(), told);
            tastes(later, 0, 32, 0);
        }
    }

    /** "that a PERSON REIGNED on DAY d (0 to 60)" */
    private static void seenOnDaysZeroToSixty() {
        for (int day = -2; day <= 63; day++) {
            BoredKings x = new BoredKings();
            boolean isTold = day >= 0 && day <= 60;
            T.due("seen(0, " + day + ")", x.seen(0, day), isTold ? 1 : BAD);
            T.due("seen", x.count(4), isTold ? 1 : 0);
        }
        BoredKings x = new BoredKings();
        T.due("seen(0, least)", x.seen(0, LEAST), BAD);
        T.due("seen(0, greatest)", x.seen(0, MOST), BAD);
        T.due("seen", x.count(4), 0);
    }

    private static void seenOfPersonsThereAre() {
        for (int persons = 1; persons <= 6; persons++) {
            BoredKings x = Due.court("p0,0,1;".repeat(persons));
            T.due("seen(-1, 0)", x.seen(-1, 0), BAD);
            for (int i = 0; i <= 7; i++) {
                T.due("seen(" + i + ", 0) of " + persons, x.seen(i, 0), i < persons ? i + 1 : BAD);
            }
            T.due("seen(least, 0)", x.seen(LEAST, 0), BAD);
            T.due("seen(greatest, 0)", x.seen(MOST, 0), BAD);
            T.due("seen", x.count(4), persons);
        }
    }

    /** Promise 19: "Nothing is SEEN: how many were" */
    private static void forgottenAndSeenAgain() {
        BoredKings x = new BoredKings();
        for (int were = 0; were <= 9; were++) {
            for (int n = 0; n < were; n++) {
                x.seen(3, 0);
            }
            T.due("forget() of " + were, x.forget(), Math.min(were, 8));
            T.due("seen", x.count(4), 0);
            T.due("tastes", x.tastes(0, 0), 32);
            T.due("forget() again", x.forget(), 0);
        }
    }

    private static void tastes(BoredKings x, int i, int howMany, int first) {
        T.due("tastes(" + i + ", 0)", x.tastes(i, 0), howMany);
        T.due("tastes(" + i + ", 1)", x.tastes(i, 1), first);
    }

    /** "by how many of the 32 all that was SEEN would be so, were it his; the first; none" */
    private static void tastesOfThirtyTwo() {
        BoredKings none = Due.court("p0,1,1;p0,1,1;");
        tastes(none, 0, 32, 0);
        tastes(none, 1, 32, 0);
        none.seen(1, 0);
        tastes(none, 0, 0, NONE);
        tastes(none, 1, 0, NONE);
        BoredKings last = Due.court("p0,0,45;p0,0,60;t0,31,9;");
        last.seen(1, 1);
        tastes(last, 0, 1, 31);
        last.forget();
        last.seen(0, 1);
        tastes(last, 0, 31, 0);
        BoredKings least = Due.court("p0,31,1;p0,0,60;t0,31,1;");
        least.seen(0, 1);
        tastes(least, 0, 1, 0);
        least.forget();
        least.seen(1, 1);
        tastes(least, 0, 31, 1);
        for (int i = -1; i <= 3; i++) {
            for (int what : NEITHER) {
                T.due("tastes(" + i + ", " + what + ")", least.tastes(i, what), BAD);
            }
        }
        int[] wrong = {LEAST, -1, 2, 6, MOST};
        for (int i : wrong) {
            T.due("tastes(" + i + ", 0)", least.tastes(i, 0), BAD);
            T.due("tastes(" + i + ", 1)", least.tastes(i, 1), BAD);
        }
    }

    private static void tastesUpToTheLastDay() {
        BoredKings on = Due.court("p0,0,9;p0,0,60;t60,1,9;");
        on.seen(0, 60);
        tastes(on, 0, 32, 0);
        on.seen(1, 60);
        tastes(on, 0, 0, NONE);
        BoredKings ahead = Due.court("p0,0,9;p0,0,60;t59,2,9;");
        ahead.seen(1, 60);
        tastes(ahead, 0, 16, 2);
        ahead.seen(0, 59);
        tastes(ahead, 0, 16, 2);
        ahead.seen(1, 59);
        tastes(ahead, 0, 0, NONE);
    }

    /** "counted from the first, as the TEXT tells, nothing done": interest 0 then, nothing hidden or arranged. */
    private static void tastesAsTheTextTells() {
        BoredKings x = Due.court("p0,1,9;p0,1,9;t0,1,8;t1,1,1;f1;");
        x.pass(1);
        x.arrange(1, 31, 9);
        x.hide(1);
        x.seen(0, 1);
        x.seen(1, 2);
        tastes(x, 0, 16, 1);
        BoredKings least = Due.court("p0,1,9;p0,1,9;t0,1,9;f1;");
        least.seen(1, 1);
        tastes(least, 0, 16, 1);
        BoredKings most = Due.court("p0,1,9;p0,1,9;t0,1,8;f1;");
        most.seen(0, 1);
        tastes(most, 0, 32, 0);
    }

    /** LASTS begins with the interest there is; the thing more is "behind all others" of its day. */
    private static void lastsAsThingsStand() {
        BoredKings x = Due.court("p0,1,9;t0,1,8;f2;");
        x.pass(1);
        T.due("8 by 2 and 5 are 9", x.lasts(1, 1, 5, 10, 0), 0);
        T.due("8 by 2 and 4 are less", x.lasts(1, 1, 4, 10, 0), 1);
        BoredKings curious = Due.court("p2,0,4;t0,1,9;t1,1,9;f9;");
        T.due("no new topic", curious.lasts(2, 1, 9, 10, 0), 1);
        T.due("a new topic", curious.lasts(1, 2, 9, 10, 0), 0);
        curious.hide(0);
        T.due("the only one is new", curious.lasts(1, 1, 9, 10, 0), 1);
        BoredKings two = Due.court("p2,0,2;t0,1,9;");
        two.hide(0);
        T.due("the only one brings 2", two.lasts(1, 1, 9, 10, 0), 0);
    }

    /** "one more THING (behind all others)": a topic that any of the day ahead of it has had is not new. */
    private static void lastsBehindAllOthers() {
        String[] twice = {"t0,1,1;t0,2,1;", "t0,2,1;t0,1,1;"};
        for (String things : twice) {
            BoredKings x = Due.court("p2,0,5;" + things);
            for (int topics = 1; topics <= 31; topics++) {
                T.due("lasts(1, " + topics + ", 1, 10, 0) by " + things, x.lasts(1, topics, 1, 10, 0), topics <= 3 ? 1 : 0);
            }
        }
        BoredKings same = Due.court("p2,0,3;t0,1,1;t0,1,1;");
        for (int topics = 1; topics <= 31; topics++) {
            T.due("lasts(1, " + topics + ", 1, 10, 0) by 1 twice", same.lasts(1, topics, 1, 10, 0), topics == 1 ? 1 : 0);
        }
        BoredKings next = Due.court("p2,0,3;t0,1,1;t0,1,1;t1,2,1;t1,2,1;f9;");
        T.due("by another day's topics", next.lasts(2, 1, 1, 10, 0), 0);
        T.due("by those of the first day", next.lasts(1, 1, 1, 10, 0), 1);
    }

    /** "on each of the next n (0 to 6) DAYS", "by the chance of x (0 to 10) of ten", "in lowest terms" */
    private static void lastsByDaysAndChance() {
        BoredKings x = Due.court("p0,1,9;");
        for (int n = 0; n <= 6; n++) {
            for (int chance = 0; chance <= 10; chance++) {
                BigInteger above = BigInteger.valueOf(10 - chance).pow(n);
                BigInteger below = BigInteger.TEN.pow(n);
                BigInteger both = above.gcd(below);
                String call = "lasts(" + n + ", 1, 9, " + chance + ", ";
                T.due(call + "0)", x.lasts(n, 1, 9, chance, 0), above.divide(both).intValueExact());
                T.due(call + "1)", x.lasts(n, 1, 9, chance, 1), below.divide(both).intValueExact());
            }
        }
        int[] days = {0, 1, 5, 6, 7};
        for (int day : days) {
            BoredKings told = Due.court("p0,1,9;t" + day + ",1,9;");
            for (int n = 0; n <= 6; n++) {
                T.due("lasts(" + n + ", 2, 1, 0, 0) by a thing on " + day, told.lasts(n, 2, 1, 0, 0), day < n ? 0 : 1);
                T.due("lasts(" + n + ", 2, 1, 0, 1) by a thing on " + day, told.lasts(n, 2, 1, 0, 1), 1);
            }
        }
    }

    /** "of TOPICS T (1 to 31)" */
    private static void lastsByTopics() {
        for (int topics = 1; topics <= 31; topics++) {
            for (int topic = 0; topic <= 4; topic++) {
                BoredKings x = Due.court("p0," + (1 << topic) + ",1;");
                T.due("lasts(1, " + topics + ", 1, 10, 0)", x.lasts(1, topics, 1, 10, 0), 1 - (topics >> topic & 1));
            }
        }
    }

    /** "S STRONG (1 to 9)" */
    private static void lastsByStrength() {
        for (int s = 1; s <= 9; s++) {
            T.due("less than L", Due.court("p0,1," + (s + 1) + ";").lasts(1, 1, s, 10, 0), 1);
            T.due("L", Due.court("p0,1," + s + ";").lasts(1, 1, s, 10, 0), 0);
        }
    }

    private static void lastsByNumbersTold() {
        int[] good = {3, 3, 3, 3, 1};
        int[] least = {0, 1, 1, 0, 0};
        int[] most = {6, 31, 9, 10, 1};
        BoredKings x = new BoredKings();
        for (int at = 0; at < 5; at++) {
            int[] numbers = {LEAST, -40, -1, 0, 1, least[at] - 1, least[at], most[at], most[at] + 1, 40, MOST};
            for (int number : numbers) {
                int[] a = good.clone();
                a[at] = number;
                boolean isTold = number >= least[at] && number <= most[at];
                int got = x.lasts(a[0], a[1], a[2], a[3], a[4]);
                T.due("lasts" + java.util.Arrays.toString(a) + " is BAD", got == BAD ? 1 : 0, isTold ? 0 : 1);
            }
        }
    }

    /** "CONTENT with a DAY d (0 to 40 from now)" */
    private static void contentOnDaysZeroToForty() {
        for (int day = 0; day <= 60; day++) {
            BoredKings x = Due.court("p0,1,1;".repeat(6) + "t" + day + ",1,1;");
            for (int d = 0; d <= 40; d++) {
                T.due("content(" + d + ") by a thing on " + day, x.content(d), d == day ? 63 : 0);
            }
        }
        int[] wrong = {LEAST, -40, -1, 41, 42, 60, MOST};
        for (int d : wrong) {
            T.due("content(" + d + ")", new BoredKings().content(d), BAD);
        }
        T.due("content(0) without things", Due.court("p0,31,1;").content(0), 0);
    }

    /** "whose INTEREST, had they 0 ahead of it and REIGNED, would come to L or more on it" */
    private static void contentFromStandingOn() {
        BoredKings x = Due.court("p0,1,8;p0,1,9;p0,1,10;p1,1,4;p1,1,5;p2,1,11;t0,1,9;f1;");
        T.due("content(0)", x.content(0), 1 + 2 + 8 + 32);
        BoredKings gone = Due.court("p0,1,18;t0,1,9;t1,1,9;f1;");
        gone.pass(1);
        T.due("bell()", gone.bell(), 0);
        T.due("had he 0 ahead of it", gone.content(0), 0);
    }

    /** "of the next 40 DAYS the longest row of those on which no BELL goes: how many; from which on (0: the next)" */
    private static void dullOfFortyDays() {
        for (int day = 0; day <= 60; day++) {
            BoredKings x = Due.court("p0,1,1;t" + day + ",1,1;");
            int ahead = Math.min(day, 40);
            int behind = Math.max(39 - day, 0);
            T.due("dull(0) by a thing on " + day, x.dull(0), Math.max(ahead, behind));
            T.due("dull(1) by a thing on " + day, x.dull(1), ahead >= behind ? 0 : day + 1);
        }
        T.due("dull(0) without things", Due.court("p0,31,1;").dull(0), 40);
        T.due("dull(1) without things", Due.court("p0,31,1;").dull(1), 0);
        for (int what : NEITHER) {
            T.due("dull(" + what + ")", new BoredKings().dull(what), BAD);
        }
        BoredKings nine = Due.court("p0,1,1;t4,1,1;t8,1,1;t12,1,1;t16,1,1;t20,1,1;t24,1,1;t28,1,1;t32,1,1;t36,1,1;");
        T.due("dull(0) by nine bells", nine.dull(0), 4);
        T.due("dull(1) by nine bells", nine.dull(1), 0);
    }

    private static void dullOfSeveralTheFirst() {
        BoredKings x = Due.court("p0,1,1;t0,1,1;t20,1,1;");
        T.due("19 days twice", x.dull(0), 19);
        T.due("the first", x.dull(1), 1);
        BoredKings second = Due.court("p0,1,1;t0,1,1;t19,1,1;");
        T.due("18 days and 20", second.dull(0), 20);
        T.due("the longer", second.dull(1), 20);
    }

    /** "A YEAR by z (0 to 9999) of n (1 to 60) DAYS" */
    private static void yearsByNumbersTold() {
        BoredKings x = new BoredKings();
        int[] z = {LEAST, -9999, -1, 0, 1, 9998, 9999, 10000, 10001, MOST};
        int[] n = {LEAST, -60, -1, 0, 1, 2, 59, 60, 61, 62, MOST};
        for (int year : z) {
            for (int days : n) {
                boolean isTold = year >= 0 && year <= 9999 && days >= 1 && days <= 60;
                String call = "year(" + year + ", " + days + ", ";
                T.due(call + "0) is BAD", x.year(year, days, 0) == BAD ? 1 : 0, isTold ? 0 : 1);
                T.due(call + "1) is BAD", x.year(year, days, 1) == BAD ? 1 : 0, isTold ? 0 : 1);
            }
        }
        for (int what : NEITHER) {
            T.due("year(0, 1, " + what + ")", x.year(0, 1, what), BAD);
        }
    }

    private static int draw(int z, int k) {
        BigInteger x = BigInteger.valueOf(7919).multiply(BigInteger.valueOf(z))
            .add(BigInteger.valueOf(6151).multiply(BigInteger.valueOf(k))).add(BigInteger.ONE);
        return x.multiply(x).mod(BigInteger.valueOf(65521)).divide(BigInteger.TWO).intValueExact();
    }

    /** By whom everything interests, the bell goes whenever there is one more thing. */
    private static void yearsByDraws() {
        int[] years = {0, 1, 2, 77, 4999, 9998, 9999};
        for (int z : years) {
            BoredKings x = Due.court("p0,31,1;".repeat(5));
            int bells = 0;
            for (int n = 1; n <= 60; n++) {
                bells += draw(z, n - 1) % 3 == 0 ? 1 : 0;
                T.due("year(" + z + ", " + n + ", 0)", x.year(z, n, 0), bells);
                T.due("year(" + z + ", " + n + ", 1)", x.year(z, n, 1), bells % 5);
            }
        }
        T.due("by 0 the first is 0", draw(0, 0), 0);
    }

    /** "of TOPIC (DRAW by 4, cut) modulo 5, (DRAW by 32, cut) modulo 9 and 1 STRONG" */
    private static void yearsByTopicAndStrength() {
        for (int z = 0; z <= 9999; z += 101) {
            int draw = draw(z, 0);
            int taste = 1 << (draw / 4 % 5);
            int s = draw / 32 % 9 + 1;
            int due = draw % 3 == 0 ? 1 : 0;
            T.due("year " + z + " by L", Due.court("p0," + taste + "," + s + ";").year(z, 1, 0), due);
            T.due("year " + z + " by more", Due.court("p0," + taste + "," + (s + 1) + ";").year(z, 1, 0), 0);
            T.due("year " + z + " by others", Due.court("p0," + (31 - taste) + ",1;").year(z, 1, 0), 0);
        }
    }

    /** "one more THING (behind all others)": by 2 its topic is 1, 4 strong, on the first day. */
    private static void yearsBehindAllOthers() {
        T.due("it is", draw(2, 0) % 3, 0);
        T.due("its topic", draw(2, 0) / 4 % 5, 1);
        T.due("its strength", draw(2, 0) / 32 % 9 + 1, 4);
        String[] had = {"t0,2,1;t0,1,1;", "t0,1,1;t0,2,1;", "t0,3,1;t0,1,1;"};
        int[] ahead = {4, 4, 2};
        for (int i = 0; i < had.length; i++) {
            T.due("not new by " + had[i], Due.court("p2,0," + (ahead[i] + 1) + ";" + had[i]).year(2, 1, 0), 0);
            T.due("what is ahead by " + had[i], Due.court("p2,0," + ahead[i] + ";" + had[i]).year(2, 1, 0), 1);
        }
        T.due("new by 1 twice", Due.court("p2,0,4;t0,1,1;t0,1,1;").year(2, 1, 0), 1);
        T.due("no more than 2 by it", Due.court("p2,0,5;t0,1,1;t0,1,1;").year(2, 1, 0), 0);
    }

    /** "KEPT are DAYS, the gallery, INTEREST, THINGS: 2 at most" */
    private static void keptTwoAtMost() {
        BoredKings x = new BoredKings();
        T.due("kept at first", x.count(6), 0);
        T.due("back() at first", x.back(), NO);
        T.due("keep()", x.keep(), 1);
        T.due("kept", x.count(6), 1);
        x.pass(1);
        T.due("keep()", x.keep(), 2);
        T.due("kept", x.count(6), 2);
        x.pass(1);
        T.due("keep() of a third", x.keep(), FULL);
        T.due("kept", x.count(6), 2);
        T.due("back()", x.back(), 1);
        T.due("the day", x.count(2), 1);
        T.due("keep() in its place", x.keep(), 2);
        T.due("keep() of a third", x.keep(), FULL);
        T.due("back()", x.back(), 1);
        T.due("back()", x.back(), 0);
        T.due("the day", x.count(2), 0);
        T.due("back() of none", x.back(), NO);
        T.due("the day is left", x.count(2), 0);
    }

    /** Promise 26: "As KEPT last" */
    private static void keptLastComesFirst() {
        BoredKings x = Due.court("p0,1,9;p0,1,9;t0,1,9;t1,1,8;t2,1,8;f1;");
        String first = told(x);
        x.keep();
        x.pass(2);
        x.hide(2);
        x.arrange(9, 1, 9);
        String second = told(x);
        x.keep();
        x.pass(20);
        x.hide(2);
        x.hide(0);
        x.back();
        T.same("as kept last", told(x), second);
        x.back();
        T.same("as kept first", told(x), first);
    }

    /** What is kept: days, gallery, interest, things. */
    private static String told(BoredKings x) {
        StringBuilder all = new StringBuilder();
        all.append(x.count(1)).append(' ').append(x.count(2)).append(' ').append(x.count(3)).append(' ');
        for (int i = 0; i < 2; i++) {
            all.append(x.person(i, 3)).append(' ').append(x.person(i, 4)).append(' ');
        }
        for (int k = 0; k < x.count(1); k++) {
            all.append(x.thing(k, 0)).append(' ').append(x.thing(k, 3)).append(' ');
        }
        return all.append(x.king(0, 0)).append(' ').append(x.king(0, 1)).toString();
    }

    /** Promise 26: "nothing is UNDONE then" */
    private static void backLeavesNothingToUndo() {
        BoredKings x = new BoredKings();
        x.pass(1);
        x.keep();
        for (int n = 0; n < 8; n++) {
            x.pass(1);
        }
        T.due("can be undone", x.count(5), 8);
        T.due("back()", x.back(), 0);
        T.due("can be undone then", x.count(5), 0);
        T.due("undo() then", x.undo(), NO);
        T.due("the day", x.count(2), 1);
        x.pass(1);
        T.due("back() of none", x.back(), NO);
        T.due("can be undone still", x.count(5), 1);
        T.due("undo()", x.undo(), 0);
    }

    /** Promise 27: "How many: 0 PERSONS, .., 8 F" */
    private static void countsZeroToEight() {
        BoredKings x = new BoredKings();
        int[] due = {4, 7, 0, 0, 0, 0, 0, 0, 2};
        for (int what = -3; what <= 12; what++) {
            T.due("count(" + what + ")", x.count(what), what >= 0 && what <= 8 ? due[what] : BAD);
        }
        T.due("count(least)", x.count(LEAST), BAD);
        T.due("count(greatest)", x.count(MOST), BAD);
    }

    private static void codes() {
        T.due("BAD", BAD, -1);
        T.due("NO", NO, -2);
        T.due("FULL", FULL, -3);
        T.due("NONE", NONE, -4);
    }

    /** "Of several the first": BAD, then NO, then NONE, then FULL. */
    private static void ofSeveralTheFirst() {
        BoredKings full = Due.court("p0,0,1;p0,0,1;" + "t0,1,1;".repeat(9));
        full.pass(1);
        T.due("BAD, NO and FULL", full.arrange(0, 0, 1), BAD);
        T.due("BAD, NO and FULL", full.arrange(0, 1, 10), BAD);
        T.due("BAD and FULL", full.arrange(1000, 1, 1), BAD);
        T.due("BAD and FULL", full.arrange(-1, 1, 1), BAD);
        T.due("NO and FULL", full.arrange(0, 1, 1), NO);
        T.due("FULL", full.arrange(1, 1, 1), FULL);
        T.due("BAD and NONE", full.raise(1, 2), BAD);
        T.due("NONE", full.raise(1, 1), NONE);
        T.due("BAD and NONE", Due.court("p0,0,1;").away(2), BAD);
        T.due("NONE", Due.court("p0,0,1;").away(1), NONE);
        for (int n = 0; n < 8; n++) {
            full.seen(1, 0);
        }
        T.due("BAD and FULL", full.seen(2, 0), BAD);
        T.due("BAD and FULL", full.seen(0, 61), BAD);
        T.due("FULL", full.seen(0, 60), FULL);
        T.due("BAD and NONE", full.tastes(0, 2), BAD);
        T.due("NONE", full.tastes(0, 1), NONE);
        for (int n = full.count(7); n < 200; n++) {
            full.write('f');
        }
        T.due("BAD and FULL", full.write(31), BAD);
        T.due("BAD and FULL", full.write(127), BAD);
        T.due("FULL", full.write(126), FULL);
        BoredKings far = new BoredKings();
        for (int n = 0; n < 49; n++) {
            far.pass(20);
        }
        T.due("BAD and NO", far.pass(21), BAD);
        T.due("BAD and NO", far.pass(MOST), BAD);
        T.due("NO", far.pass(20), NO);
    }
}
