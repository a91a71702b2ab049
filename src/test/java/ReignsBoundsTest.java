/** 'Terms', 3: each bound that is told of KING, BELL, REIGNED, KEEP, RAISE, ORDER and AWAY. */
public final class ReignsBoundsTest {
    private static final int BAD = BoredKings.BAD, NONE = BoredKings.NONE;
    private static final int LEAST = Integer.MIN_VALUE, MOST = Integer.MAX_VALUE;
    private static final Due T = new Due("ReignsBoundsTest");

    public static void main(String[] args) {
        kingOnDaysZeroToForty();
        kingWhereTheBellGoes();
        kingWhatIsZeroOrOne();
        bellFortyAtMost();
        reignedOnDaysGoneBy();
        reignedOfEachPerson();
        keepForOneToForty();
        keepByTheFewest();
        keepByTheLowest();
        keepByThoseNotHidden();
        keepByInterest();
        raiseByTheNextTwentyDays();
        raiseByTopics();
        raiseBehindAllOthers();
        raiseByNoneMore();
        raiseUpToDayForty();
        raiseByTheLeast();
        raiseByNone();
        raiseOfPersonsThereAre();
        orderForOneToForty();
        orderOfSeveralTheFirst();
        orderWhoIsKth();
        orderByInterest();
        awayIsFortyOneWhereBellIsNone();
        awayOfSeveralTheFirst();
        awayIsNoneWhereAllAreHidden();
        onTheLastDay();
        T.end();
    }

    private static BoredKings onDay(String text, int day) {
        BoredKings x = Due.court(text);
        for (int gone = 0; gone < day; gone += 20) {
            x.pass(Math.min(20, day - gone));
        }
        return x;
    }

    /** "KING on the d-th DAY from now (0 to 40; 0: the one to come)" */
    private static void kingOnDaysZeroToForty() {
        for (int day = 0; day <= 60; day++) {
            BoredKings x = Due.court("p0,1,60;t" + day + ",1,9;f9;");
            for (int d = 0; d <= 40; d++) {
                T.due("king(" + d + ", 1)", x.king(d, 1), d == day ? 9 : d == day + 1 ? 1 : 0);
                T.due("king(" + d + ", 0)", x.king(d, 0), 0);
            }
        }
        BoredKings later = onDay("p0,1,60;t20,1,9;t60,1,8;f9;", 20);
        T.due("king(0, 1) on day 20", later.king(0, 1), 9);
        T.due("king(40, 1) on day 20", later.king(40, 1), 8);
        int[] wrong = {LEAST, -41, -2, -1, 41, 42, 60, MOST};
        for (int d : wrong) {
            T.due("king(" + d + ", 0)", later.king(d, 0), BAD);
            T.due("king(" + d + ", 1)", later.king(d, 1), BAD);
        }
    }

    /** "his INTEREST when all of it has come (L or more, where the BELL goes)" */
    private static void kingWhereTheBellGoes() {
        BoredKings x = Due.court("p0,1,9;p0,1,10;t0,1,9;t1,1,9;t40,1,9;t40,1,9;f9;");
        int[][] due = {{0, 0, 9}, {1, 1, 9}, {2, 1, 1}, {39, 1, 0}, {40, 1, 18}};
        for (int[] day : due) {
            T.due("who on " + day[0], x.king(day[0], 0), day[1]);
            T.due("interest on " + day[0], x.king(day[0], 1), day[2]);
        }
        BoredKings most = Due.court("p0,31,1;" + "t40,31,9;".repeat(9));
        T.due("the most", most.king(40, 1), 405);
    }

    private static void kingWhatIsZeroOrOne() {
        int[] wrong = {LEAST, -2, -1, 2, 3, MOST};
        for (int what : wrong) {
            T.due("king(0, " + what + ")", new BoredKings().king(0, what), BAD);
            T.due("king(41, " + what + ")", new BoredKings().king(41, what), BAD);
        }
    }

    /** "BELL: behind how many DAYS it goes first (0: on the next one; 40 at most); none" */
    private static void bellFortyAtMost() {
        for (int day = 0; day <= 60; day++) {
            BoredKings x = Due.court("p0,1,1;t" + day + ",1,1;");
            T.due("bell() by a thing on " + day, x.bell(), day <= 40 ? day : NONE);
            x.pass(1);
            T.due("bell() by it a day later", x.bell(), day == 0 ? NONE : day <= 41 ? day - 1 : NONE);
        }
        T.due("bell() without things", Due.court("p0,31,1;").bell(), NONE);
        BoredKings hidden = Due.court("p0,1,1;t0,1,1;");
        hidden.hide(0);
        T.due("bell() with all hidden", hidden.bell(), NONE);
        BoredKings gone = Due.court("p0,1,9;t0,1,8;t1,1,5;f2;");
        gone.pass(1);
        T.due("bell() by 8 by 2 and 5", gone.bell(), 0);
        gone.arrange(1, 1, 5);
        T.due("away(1) by 8 by 2 and 5", gone.away(1), 0);
        T.due("bell() of two", Due.court("p0,1,1;t40,1,1;t39,1,1;").bell(), 39);
    }

    /** "REIGNED: on how many DAYS that went by one has" */
    private static void reignedOnDaysGoneBy() {
        BoredKings x = Due.court("p0,1,1;p0,1,1;p0,1,1;t0,1,1;t1,1,1;t4,1,1;");
        int[][] due = {{0, 0, 0}, {1, 0, 0}, {1, 1, 0}, {1, 1, 1}, {1, 1, 2}, {1, 1, 3}, {2, 1, 3}};
        for (int day = 0; day < due.length; day++) {
            for (int i = 0; i < 3; i++) {
                T.due("reigned of " + i + " on " + day, x.person(i, 4), due[day][i]);
            }
            x.pass(1);
        }
        T.due("reigned up to the last", onDay("p0,1,1;", 999).person(0, 4), 999);
    }

    /** REIGNED of each of one to six persons, who reign a day each; undone and kept days take theirs along. */
    private static void reignedOfEachPerson() {
        for (int persons = 1; persons <= 6; persons++) {
            BoredKings x = Due.court("p0,1,1;".repeat(persons) + "t0,1,1;t1,1,1;t2,1,1;t3,1,1;t4,1,1;t5,1,1;");
            T.due("pass to the last one's day", x.pass(persons), persons);
            reigned(x, persons, 1);
            x.keep();
            x.undo();
            reigned(x, persons, 0);
            x.back();
            reigned(x, persons, 1);
            x.pass(20);
            x.undo();
            reigned(x, persons, 1);
        }
    }

    private static void reigned(BoredKings x, int persons, int days) {
        for (int i = 0; i < persons; i++) {
            T.due("reigned of " + i + " of " + persons, x.person(i, 4), days);
        }
    }

    /** "KEEP for n (1 to 40) DAYS" */
    private static void keepForOneToForty() {
        int[] days = {0, 1, 38, 39, 40, 60};
        for (int day : days) {
            BoredKings x = Due.court("p0,1,1;t" + day + ",1,1;");
            for (int n = 1; n <= 40; n++) {
                T.due("hides(" + n + ") by a thing on " + day, x.hides(n), day < n ? 1 : 0);
            }
        }
        int[] wrong = {LEAST, -40, -1, 0, 41, 42, MOST};
        for (int n : wrong) {
            T.due("hides(" + n + ")", new BoredKings().hides(n), BAD);
            T.due("hides(" + n + ") without things", Due.court("p0,0,1;").hides(n), BAD);
        }
    }

    /** "the fewest THINGS": none, some, all nine. */
    private static void keepByTheFewest() {
        for (int stands = 1; stands <= 10; stands++) {
            BoredKings x = Due.court("p0,1," + stands + ";" + "t0,1,1;".repeat(9));
            int fewest = 10 - stands;
            T.due("hides(1) by L " + stands, x.hides(1), (1 << fewest) - 1);
        }
        T.due("one rather than two lower ones", Due.court("p0,1,5;t0,1,2;t0,1,2;t0,1,4;").hides(1), 4);
        T.due("on each of the days", Due.court("p0,1,1;t0,1,1;t1,1,1;t2,1,1;f9;").hides(2), 3);
        T.due("without things", Due.court("p0,31,1;").hides(40), 0);
        T.due("L is not less than L", Due.court("p0,1,9;t0,1,9;").hides(1), 1);
        T.due("less than L is", Due.court("p0,1,10;t0,1,9;").hides(1), 0);
    }

    /** "of several sets the lowest (bits)" */
    private static void keepByTheLowest() {
        T.due("of three ones", Due.court("p0,1,3;t0,1,1;t0,1,1;t0,1,1;").hides(1), 1);
        T.due("of two", Due.court("p0,1,3;t0,2,9;t0,1,2;t0,1,2;").hides(1), 2);
        T.due("of pairs", Due.court("p0,1,3;t0,1,1;t0,1,1;t0,1,1;t0,1,1;").hides(1), 3);
        T.due("the last", Due.court("p0,1,9;" + "t0,2,9;".repeat(8) + "t0,1,9;").hides(1), 256);
    }

    /** "(not HIDDEN yet)" */
    private static void keepByThoseNotHidden() {
        BoredKings x = Due.court("p0,1,2;t0,1,1;t0,1,1;t0,1,1;");
        T.due("none hidden", x.hides(1), 3);
        x.hide(0);
        T.due("one hidden", x.hides(1), 2);
        x.hide(2);
        T.due("two hidden", x.hides(1), 0);
        x.hide(1);
        T.due("all hidden", x.hides(1), 0);
    }

    /** KEEP begins with the interest there is, which fades on the first of the days, too. */
    private static void keepByInterest() {
        BoredKings x = Due.court("p0,1,9;t0,1,8;t1,1,5;f2;");
        x.pass(1);
        T.due("8 by 2 and 5 are 9", x.hides(1), 2);
        BoredKings less = Due.court("p0,1,10;t0,1,8;t1,1,5;f2;");
        less.pass(1);
        T.due("they are less than 10", less.hides(1), 0);
        BoredKings sleepy = Due.court("p3,1,9;t1,1,9;t2,1,9;t3,1,9;t5,1,9;");
        sleepy.pass(1);
        T.due("on days 1 to 5 of a sleepy one", sleepy.hides(5), 5);
    }

    private static void raise(String text, int i, int what, int day) {
        BoredKings x = Due.court(text);
        T.due("raise(" + i + ", 0) of " + text, x.raise(i, 0), what);
        T.due("raise(" + i + ", 1) of " + text, x.raise(i, 1), day);
    }

    /** "on one of the next 20 DAYS": 9 alone are too few, but with the thing of that day. */
    private static void raiseByTheNextTwentyDays() {
        for (int day = 0; day <= 60; day++) {
            boolean isNear = day <= 19;
            raise("p0,1,10;p0,0,60;t" + day + ",1,1;f9;", 1, isNear ? 10 * day : NONE, isNear ? day + 1 : NONE);
        }
        BoredKings later = onDay("p0,1,10;p0,0,60;t39,1,1;f9;", 20);
        T.due("raise(1, 0) on day 20", later.raise(1, 0), 190);
        T.due("raise(1, 1) on day 20", later.raise(1, 1), 20);
        BoredKings sooner = onDay("p0,1,10;p0,0,60;t39,1,1;f9;", 19);
        T.due("raise(1, 0) on day 19", sooner.raise(1, 0), NONE);
        T.due("raise(1, 1) on day 19", sooner.raise(1, 1), NONE);
    }

    /** "of one TOPIC and S 9", "the TOPIC (0 to 4)" */
    private static void raiseByTopics() {
        for (int topic = 0; topic <= 4; topic++) {
            int taste = 1 << topic;
            raise("p0," + taste + ",9;p0,0,60;", 1, topic, 1);
            raise("p0," + taste + ",10;p0,0,60;", 1, NONE, NONE);
            raise("p0," + taste + ",10;p0,0,60;t19," + taste + ",1;f9;", 1, 190 + topic, 20);
        }
        raise("p0,31,9;p0,0,60;", 1, 0, 1);
        raise("p0,31,10;p0,0,60;", 1, NONE, NONE);
        raise("p0,0,1;p0,0,60;", 1, NONE, NONE);
        // a sixth topic would be new to somebody curious
        raise("p2,0,4;p0,0,60;t0,31,1;", 1, NONE, NONE);
        raise("p2,0,4;p0,0,60;t0,15,1;", 1, 4, 1);
    }

    /** The thing more is one of the day as all others: to a curious one its topic is new or not by each of them. */
    private static void raiseBehindAllOthers() {
        raise("p2,0,5;p0,0,60;t0,1,1;t0,2,1;", 1, 2, 1);
        raise("p2,0,5;p0,0,60;t0,2,1;t0,1,1;", 1, 2, 1);
        raise("p2,0,5;p0,0,60;t0,15,1;t0,16,1;f9;", 1, NONE, NONE);
        raise("p2,0,5;p0,0,60;t0,16,1;t0,15,1;f9;", 1, NONE, NONE);
        raise("p2,0,3;p0,0,60;t0,1,1;t0,1,1;f9;", 1, 1, 1);
        BoredKings hidden = Due.court("p2,0,3;p0,0,60;t0,2,1;t0,1,1;f9;");
        hidden.hide(1);
        T.due("by those not hidden", hidden.raise(1, 0), 0);
        BoredKings nine = Due.court("p2,0,5;p0,0,60;" + "t0,1,1;".repeat(8) + "t0,2,1;f9;");
        T.due("as a tenth", nine.raise(1, 0), 2);
        T.due("as a tenth", nine.raise(1, 1), 1);
    }

    /** "or none more, if he does as soon without", "(1000: none more)" */
    private static void raiseByNoneMore() {
        raise("p0,31,1;", 0, 1000, 0);
        raise("p0,31,1;p0,31,1;", 0, 1000, 0);
        raise("p0,1,9;p0,0,60;t0,1,9;", 1, 1000, 1);
        raise("p0,1,9;p0,0,60;t1,1,9;", 1, 0, 1);
        raise("p0,2,60;p0,0,60;" + "t5,2,9;".repeat(7) + "f9;", 1, 1000, 6);
        raise("p0,2,60;p0,0,60;" + "t5,2,9;".repeat(6) + "f9;", 1, 51, 6);
    }

    /** "on which DAY from now (0 to 40) he REIGNS first" */
    private static void raiseUpToDayForty() {
        for (int day = 36; day <= 44; day++) {
            boolean isIn = day + 1 <= 40;
            raise("p0,1,60;p0,0,60;" + ("t" + day + ",1,9;").repeat(7), 1, isIn ? 1000 : NONE, isIn ? day + 1 : NONE);
            raise("p0,1,10;p0,0,60;t" + day + ",1,1;f1;", 1, isIn ? 0 : NONE, isIn ? day + 1 : NONE);
        }
    }

    /** "of several the least" */
    private static void raiseByTheLeast() {
        raise("p0,24,9;p0,0,60;", 1, 3, 1);
        raise("p0,3,10;p0,0,60;t3,3,1;f1;", 1, 0, 4);
        raise("p0,6,11;p0,0,60;t3,6,1;f9;", 1, 31, 4);
        raise("p0,6,11;p0,0,60;t3,6,1;t7,6,1;f9;", 1, 31, 4);
    }

    /** "none (by none of these)": both, and BAD for what is not told. */
    private static void raiseByNone() {
        BoredKings x = Due.court("p0,0,1;p0,0,1;p0,0,1;");
        for (int i = 1; i <= 2; i++) {
            T.due("raise(" + i + ", 0)", x.raise(i, 0), NONE);
            T.due("raise(" + i + ", 1)", x.raise(i, 1), NONE);
            int[] wrong = {LEAST, -1, 2, MOST};
            for (int what : wrong) {
                T.due("raise(" + i + ", " + what + ")", x.raise(i, what), BAD);
            }
        }
        raise("p0,1,9;p0,1,9;p0,0,60;", 2, NONE, NONE);
    }

    private static void raiseOfPersonsThereAre() {
        for (int persons = 1; persons <= 6; persons++) {
            BoredKings x = Due.court("p0,0,1;".repeat(persons));
            for (int i = -1; i <= 7; i++) {
                int due = i < 0 || i >= persons ? BAD : i == 0 ? 1000 : NONE;
                T.due("raise(" + i + ", 0) of " + persons, x.raise(i, 0), due);
            }
            T.due("raise(least, 0)", x.raise(LEAST, 0), BAD);
            T.due("raise(greatest, 1)", x.raise(MOST, 1), BAD);
        }
    }

    /** "ORDER for n (1 to 40) DAYS" */
    private static void orderForOneToForty() {
        int[] days = {0, 1, 38, 39, 40, 60};
        for (int day : days) {
            BoredKings x = Due.court("p0,1,1;p0,0,60;t" + day + ",1,1;");
            for (int n = 1; n <= 40; n++) {
                T.due("order(" + n + ", -1) by a thing on " + day, x.order(n, -1), 0);
                T.due("order(" + n + ", 0) by a thing on " + day, x.order(n, 0), day < n ? 1 : 0);
                T.due("order(" + n + ", 1) by a thing on " + day, x.order(n, 1), day < n ? 0 : 1);
            }
        }
        int[] wrong = {LEAST, -1, 0, 41, 42, MOST};
        for (int n : wrong) {
            for (int k = -1; k <= 3; k++) {
                T.due("order(" + n + ", " + k + ")", new BoredKings().order(n, k), BAD);
            }
        }
    }

    /** "of several the first (by who is first, the lowest, then ..)" */
    private static void orderOfSeveralTheFirst() {
        for (int persons = 1; persons <= 6; persons++) {
            BoredKings x = Due.court("p0,1,1;".repeat(persons) + "t0,1,1;t1,1,1;t2,1,1;t3,1,1;t4,1,1;t5,1,1;t6,1,1;");
            T.due("order(40, -1)", x.order(40, -1), 7);
            for (int k = 0; k < persons; k++) {
                T.due("order(40, " + k + ")", x.order(40, k), k);
            }
        }
        BoredKings gone = Due.court("p0,1,1;p0,1,1;p0,1,1;t0,1,1;");
        gone.pass(1);
        for (int k = 0; k < 3; k++) {
            T.due("whoever reigns, order(40, " + k + ")", gone.order(40, k), k);
        }
    }

    /** Promise 16: "how often (k = -1), who is k-th" */
    private static void orderWhoIsKth() {
        for (int persons = 1; persons <= 6; persons++) {
            BoredKings x = Due.court("p0,0,1;".repeat(persons));
            for (int k = -3; k <= 8; k++) {
                int due = k < -1 || k >= persons ? BAD : Math.max(k, 0);
                T.due("order(1, " + k + ") of " + persons, x.order(1, k), due);
                T.due("order(40, " + k + ") of " + persons, x.order(40, k), due);
            }
            T.due("order(1, least)", x.order(1, LEAST), BAD);
            T.due("order(1, greatest)", x.order(1, MOST), BAD);
        }
    }

    /** "(INTEREST 0 for who is first, but if he REIGNS now)" */
    private static void orderByInterest() {
        BoredKings brings = Due.court("p0,1,9;p0,1,9;t0,1,8;t1,1,1;f1;");
        brings.pass(1);
        T.due("0 would ring by what he brings", brings.order(1, 0), 1);
        T.due("1 brings nothing", brings.order(1, -1), 0);
        BoredKings less = Due.court("p0,1,10;p0,1,9;t0,1,8;t1,1,1;f1;");
        less.pass(1);
        T.due("0 does not ring yet", less.order(1, 0), 0);
        BoredKings one = Due.court("p0,1,9;t0,1,8;t1,1,1;f1;");
        one.pass(1);
        T.due("one alone rings", one.order(1, -1), 1);
        BoredKings fades = Due.court("p0,1,9;p0,1,9;t0,1,8;t1,1,5;f2;");
        fades.pass(1);
        T.due("what he brings fades once", fades.order(1, 0), 1);
        BoredKings enough = Due.court("p0,1,10;p0,1,9;t0,1,8;t1,1,5;f2;");
        enough.pass(1);
        T.due("what he brings fades", enough.order(1, 0), 0);
        BoredKings first = Due.court("p0,2,1;p0,1,2;t0,3,1;f1;");
        T.due("1 is first with 0", first.order(1, 0), 1);
        T.due("1 is first with 0", first.order(1, -1), 0);
        BoredKings least = Due.court("p0,2,1;p0,1,1;t0,3,1;f1;");
        T.due("1 is first with no less than 0", least.order(1, 0), 0);
        T.due("1 is first with no less than 0", least.order(1, -1), 1);
    }

    /** "behind how many DAYS (41, where BELL is none)" */
    private static void awayIsFortyOneWhereBellIsNone() {
        for (int day = 0; day <= 60; day++) {
            BoredKings two = Due.court("p0,1,1;t" + day + ",1,1;t" + day + ",1,1;");
            T.due("away(1) of two on " + day, two.away(1), Math.min(day, 41));
            T.due("away(0) of two on " + day, two.away(0), 0);
            BoredKings one = Due.court("p0,1,1;t" + day + ",1,1;");
            T.due("away(1) of one on " + day, one.away(1), 41);
            T.due("away(0) of one on " + day, one.away(0), 0);
        }
    }

    /** "the THING not HIDDEN by whose being HIDDEN, too, BELL comes latest, of several the first" */
    private static void awayOfSeveralTheFirst() {
        BoredKings x = Due.court("p0,1,1;" + "t7,2,1;".repeat(8) + "t7,1,1;");
        T.due("the last of nine", x.away(0), 8);
        T.due("the last of nine", x.away(1), 41);
        x.hide(8);
        for (int k = 0; k < 8; k++) {
            T.due("the first of those left", x.away(0), k);
            T.due("none rings", x.away(1), 41);
            x.hide(k);
        }
        BoredKings latest = Due.court("p0,1,1;t3,1,1;t2,1,1;t9,1,1;");
        T.due("by which it is latest", latest.away(0), 1);
        T.due("how late", latest.away(1), 3);
    }

    /** "none (all are HIDDEN)" */
    private static void awayIsNoneWhereAllAreHidden() {
        BoredKings x = Due.court("p0,1,1;t0,1,1;t1,1,1;");
        x.hide(0);
        T.due("one is left", x.away(0), 1);
        x.hide(1);
        T.due("away(0), all hidden", x.away(0), NONE);
        T.due("away(1), all hidden", x.away(1), NONE);
        x.hide(0);
        T.due("one is shown again", x.away(0), 0);
        T.due("no things", Due.court("p0,1,1;").away(0), NONE);
        T.due("no things", Due.court("p0,1,1;").away(1), NONE);
        int[] wrong = {LEAST, -2, -1, 2, 3, MOST};
        for (int what : wrong) {
            T.due("away(" + what + ")", x.away(what), BAD);
            T.due("away(" + what + "), no things", Due.court("p0,1,1;").away(what), BAD);
        }
    }

    /** From the last DAY on there are days to come, too. */
    private static void onTheLastDay() {
        BoredKings x = onDay("p0,1,9;p3,0,60;", 999);
        T.due("raise(1, 0)", x.raise(1, 0), 0);
        T.due("raise(1, 1)", x.raise(1, 1), 1);
        x.arrange(999, 1, 9);
        T.due("king(40, 0)", x.king(40, 0), 1);
        T.due("bell()", x.bell(), 0);
        T.due("hides(40)", x.hides(40), 1);
        T.due("order(40, 0)", x.order(40, 0), 1);
        T.due("away(1)", x.away(1), 41);
        T.due("content(0)", x.content(0), 1);
        T.due("content(40)", x.content(40), 0);
        T.due("dull(0)", x.dull(0), 39);
        T.due("dull(1)", x.dull(1), 1);
        T.due("lasts(6, 1, 1, 0, 0)", x.lasts(6, 1, 1, 0, 0), 0);
        T.due("year(0, 60, 0)", x.year(0, 60, 0), 1);
        T.due("year(0, 60, 1)", x.year(0, 60, 1), 1);
    }
}
