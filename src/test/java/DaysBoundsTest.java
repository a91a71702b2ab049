/** 'Terms', LAID and 2: each bound that is told of what is laid, of the DAYS, and of what is done and undone. */
public final class DaysBoundsTest {
    private static final int BAD = BoredKings.BAD, NO = BoredKings.NO, FULL = BoredKings.FULL;
    private static final Due T = new Due("DaysBoundsTest");

    public static void main(String[] args) {
        laidHasAPersonAtLeast();
        laidAtFirst();
        laidAnewOutOfAll();
        interestIsPartedByFade();
        thingsOfTheDayAlone();
        plainByTopics();
        steadyByHalf();
        curiousByNewTopics();
        curiousByNotHidden();
        sleepyOnDaysThatLeaveTwo();
        bellFromStandingOn();
        galleryTurns();
        galleryOfOne();
        interestIsZeroOnTheThrone();
        thingsAreNineWithTheArranged();
        arrangedOnADayToCome();
        arrangedByNumbersTold();
        hiddenAndShown();
        daysGoByUpToTwenty();
        daysGoByUpToTheLast();
        lastEightCanBeUndone();
        undoneOfEachKind();
        refusedIsNotUndone();
        T.end();
    }

    /** Things of one day that bring somebody plain, with a taste for topic 0, so much. */
    private static String thingsOf(int day, int interest) {
        StringBuilder text = new StringBuilder();
        for (int left = interest; left > 0; left -= 9) {
            text.append('t').append(day).append(",1,").append(Math.min(left, 9)).append(';');
        }
        return text.toString();
    }

    private static void passTo(BoredKings x, int day) {
        while (x.count(2) < day) {
            x.pass(Math.min(20, day - x.count(2)));
        }
    }

    /** "LAID is a TEXT without FAULT, of a PERSON at least (NO else" */
    private static void laidHasAPersonAtLeast() {
        String[] none = {"", "f1;", "t0,1,1;", "t0,1,1;".repeat(9) + "f9;"};
        for (String text : none) {
            BoredKings x = new BoredKings();
            Due.write(x, text);
            T.due("fault() of [" + text + "]", x.fault(), BoredKings.NONE);
            T.due("lay() of [" + text + "]", x.lay(), NO);
            T.due("persons are as laid at first", x.count(0), 4);
            T.due("things are as laid at first", x.count(1), 7);
            Due.write(x, "p0,0,1;");
            T.due("lay() of [" + text + "] and a person", x.lay(), 1);
        }
        String[] faults = {"p", "p0,0,1", "p0,0,1;f0;", "f0;p0,0,1;", "p0,0,1;".repeat(7)};
        for (String text : faults) {
            BoredKings x = new BoredKings();
            Due.write(x, text);
            T.due("lay() of [" + text + "]", x.lay(), NO);
            T.due("persons are as laid at first", x.count(0), 4);
        }
    }

    /** Promise 5: "DAY 0, nothing HIDDEN, SEEN, UNDONE, KEPT", where all of these were full. */
    private static void laidAnewOutOfAll() {
        BoredKings x = Due.court("p0,1,60;p0,1,60;" + "t0,1,6;".repeat(9) + "f1;");
        String was = Due.state(x);
        for (int k = 8; k >= 0; k--) {
            x.pass(1);
            x.hide(k);
        }
        x.keep();
        x.keep();
        for (int n = 0; n < 8; n++) {
            x.seen(1, 0);
        }
        T.due("interest", x.king(0, 1), 54);
        int[] full = {2, 9, 9, 9, 8, 8, 2};
        int[] empty = {2, 9, 0, 0, 0, 0, 0};
        for (int what = 0; what < full.length; what++) {
            T.due("count(" + what + ") ahead of lay()", x.count(what), full[what]);
        }
        T.due("lay()", x.lay(), 2);
        for (int what = 0; what < empty.length; what++) {
            T.due("count(" + what + ") behind lay()", x.count(what), empty[what]);
        }
        T.same("all as laid first", Due.state(x), was);
        T.due("nothing can be undone", x.undo(), NO);
        T.due("nothing is kept", x.back(), NO);
        T.due("nothing is seen", x.tastes(0, 0), 32);
        x.hide(0);
        T.due("interest is 0 ahead of it", x.king(0, 1), 48);
    }

    /** "at first p0,3,6;p1,5,5;p2,12,9;p3,6,4;t0,1,3;t1,2,4;t2,7,2;t2,8,5;t4,4,6;t5,16,9;t7,3,3;f2;" */
    private static void laidAtFirst() {
        BoredKings x = new BoredKings();
        T.due("letters at first", x.count(7), 0);
        BoredKings told = Due.court("p0,3,6;p1,5,5;p2,12,9;p3,6,4;t0,1,3;t1,2,4;t2,7,2;t2,8,5;t4,4,6;t5,16,9;t7,3,3;f2;");
        told.wipe();
        T.same("at first", Due.state(x), Due.state(told));
        for (int i = 0; i < 4; i++) {
            for (int what = 0; what <= 4; what++) {
                T.due("person(" + i + ", " + what + ") at first", x.person(i, what), told.person(i, what));
            }
        }
    }

    /** "his INTEREST is first parted by F, cut" */
    private static void interestIsPartedByFade() {
        for (int fade = 1; fade <= 9; fade++) {
            for (int interest = 1; interest <= 59; interest++) {
                BoredKings x = Due.court("p0,1,60;" + thingsOf(0, interest) + "f" + fade + ";");
                T.due("at first", x.king(0, 1), interest);
                T.due("parted by " + fade, x.king(1, 1), interest / fade);
                T.due("parted by " + fade + " twice", x.king(2, 1), interest / fade / fade);
            }
        }
        T.due("parted first, then it comes", Due.court("p0,1,60;t0,1,9;t1,1,9;f9;").king(1, 1), 10);
        T.due("what comes is not parted", Due.court("p0,1,60;t0,1,9;t1,1,9;f2;").king(1, 1), 13);
        T.due("1 by 1 stays", Due.court("p0,1,60;t0,1,1;f1;").king(40, 1), 1);
    }

    /** "for each THING of the DAY, that is not HIDDEN" */
    private static void thingsOfTheDayAlone() {
        BoredKings x = Due.court("p0,1,60;t1,1,1;t2,1,2;t2,1,3;t3,1,4;f9;");
        int[] due = {0, 1, 5, 4, 0};
        for (int d = 0; d < due.length; d++) {
            T.due("interest on " + d, x.king(d, 1), due[d]);
        }
        x.hide(1);
        T.due("one hidden", x.king(2, 1), 3);
        x.hide(2);
        T.due("both hidden", x.king(2, 1), 0);
        x.hide(1);
        T.due("one shown again", x.king(2, 1), 2);
    }

    /** "S times how many of its TOPICS he has a TASTE for": none, some, all five. */
    private static void plainByTopics() {
        for (int topics = 1; topics <= 31; topics++) {
            for (int taste = 0; taste <= 31; taste++) {
                BoredKings x = Due.court("p0," + taste + ",60;t0," + topics + ",9;");
                T.due("by " + topics + " and a taste for " + taste, x.king(0, 1), 9 * Integer.bitCount(topics & taste));
            }
        }
        T.due("the most", Due.court("p0,31,60;" + "t0,31,9;".repeat(9)).king(0, 1), 405);
    }

    /** "by a STEADY one half of that, cut" */
    private static void steadyByHalf() {
        for (int s = 1; s <= 9; s++) {
            for (int topics = 0; topics <= 5; topics++) {
                BoredKings x = Due.court("p1," + ((1 << topics) - 1) + ",60;t0,31," + s + ";");
                T.due("half of " + s * topics, x.king(0, 1), s * topics / 2);
            }
        }
        T.due("each is cut", Due.court("p1,1,60;t0,1,1;t0,1,3;t0,1,9;").king(0, 1), 5);
    }

    /** "by a CURIOUS one that, and 2 more if it has a TOPIC that none of that DAY ahead of it has had" */
    private static void curiousByNewTopics() {
        T.due("the first", Due.court("p2,0,60;t0,1,9;").king(0, 1), 2);
        T.due("the first, of all topics", Due.court("p2,0,60;t0,31,9;").king(0, 1), 2);
        T.due("no more behind all topics", Due.court("p2,0,60;t0,31,9;" + "t0,31,9;".repeat(8)).king(0, 1), 2);
        T.due("one topic more each", Due.court("p2,0,60;t0,1,9;t0,3,9;t0,7,9;t0,15,9;t0,31,9;t0,31,9;").king(0, 1), 10);
        T.due("one topic of two is new", Due.court("p2,0,60;t0,1,9;t0,17,9;").king(0, 1), 4);
        T.due("those of two ahead", Due.court("p2,0,60;t0,1,9;t0,2,9;t0,3,9;").king(0, 1), 4);
        T.due("another day's do not count", Due.court("p2,0,60;t0,1,9;t1,1,9;f9;").king(1, 1), 2);
        T.due("those behind do not count", Due.court("p2,0,60;t0,1,9;t0,31,9;").king(0, 1), 4);
        T.due("with a taste", Due.court("p2,3,60;t0,3,9;t0,1,9;").king(0, 1), 29);
    }

    /** "(of those not HIDDEN)" */
    private static void curiousByNotHidden() {
        BoredKings x = Due.court("p2,0,60;t0,1,9;t0,1,9;t0,1,9;");
        T.due("none hidden", x.king(0, 1), 2);
        x.hide(0);
        T.due("the first hidden", x.king(0, 1), 2);
        x.hide(1);
        T.due("two hidden", x.king(0, 1), 2);
        x.hide(2);
        T.due("all hidden", x.king(0, 1), 0);
        BoredKings both = Due.court("p2,0,60;t0,3,9;t0,1,9;t0,2,9;");
        T.due("behind both", both.king(0, 1), 2);
        both.hide(0);
        T.due("behind neither", both.king(0, 1), 4);
    }

    /** "by a SLEEPY one that, but nothing on DAYS that leave 2 by 3" */
    private static void sleepyOnDaysThatLeaveTwo() {
        for (int day = 0; day <= 60; day++) {
            BoredKings x = Due.court("p3,1,60;t" + day + ",1,9;");
            int gone = day <= 40 ? 0 : 20;
            passTo(x, gone);
            T.due("on day " + day, x.king(day - gone, 1), day % 3 == 2 ? 0 : 9);
        }
        int[] due = {9, 0, 9, 9, 0, 9};
        for (int d = 0; d < 6; d++) {
            BoredKings x = Due.court("p3,1,60;");
            x.arrange(994 + d, 1, 9);
            passTo(x, 990);
            T.due("on day " + (994 + d), x.king(4 + d, 1), due[d]);
        }
        T.due("it fades on them, too", Due.court("p3,1,60;t1,1,8;t2,1,9;").king(2, 1), 4);
    }

    /** "If it is L or more then, the BELL goes" */
    private static void bellFromStandingOn() {
        for (int stands = 1; stands <= 60; stands++) {
            for (int interest = stands - 1; interest <= stands + 1; interest++) {
                BoredKings x = Due.court("p0,1," + stands + ";p0,0,60;" + thingsOf(0, interest));
                boolean rings = interest >= stands;
                String what = "interest " + interest + " of " + stands;
                T.due("king(0, 1) by " + what, x.king(0, 1), interest);
                T.due("bell() by " + what, x.bell(), rings ? 0 : BoredKings.NONE);
                T.due("pass(1) by " + what, x.pass(1), rings ? 1 : 0);
                T.due("who reigns by " + what, x.king(0, 0), rings ? 1 : 0);
            }
        }
    }

    /** "he goes behind all others of the gallery, the next one REIGNS from the next DAY on": around and around. */
    private static void galleryTurns() {
        for (int persons = 1; persons <= 6; persons++) {
            StringBuilder text = new StringBuilder("p0,1,1;".repeat(persons));
            for (int day = 0; day < 9; day++) {
                text.append("t").append(day).append(",1,1;");
            }
            BoredKings x = Due.court(text.toString());
            for (int day = 0; day < 9; day++) {
                T.due("who reigns on " + day, x.king(0, 0), day % persons);
                T.due("bell", x.pass(1), 1);
                for (int i = 0; i < persons; i++) {
                    T.due("place of " + i, x.person(i, 3), Math.floorMod(i - day - 1, persons));
                }
            }
            T.due("no bell", x.pass(1), 0);
        }
    }

    private static void galleryOfOne() {
        BoredKings x = Due.court("p0,1,9;t0,1,9;t1,1,8;t2,1,9;f1;");
        T.due("it rings", x.pass(1), 1);
        T.due("he reigns again", x.person(0, 3), 0);
        T.due("with interest 0", x.king(0, 1), 8);
        T.due("it rings once more", x.pass(2), 1);
        T.due("he has reigned", x.person(0, 4), 3);
    }

    /** "whoever comes to the throne has INTEREST 0" */
    private static void interestIsZeroOnTheThrone() {
        BoredKings x = Due.court("p0,1,9;p0,1,60;p0,1,60;t0,1,9;t0,1,9;t1,1,1;f1;");
        T.due("who goes", x.king(0, 1), 18);
        T.due("who comes", x.king(1, 1), 1);
        x.pass(1);
        T.due("who has come", x.king(0, 1), 1);
        BoredKings again = Due.court("p0,1,5;p0,1,5;t0,1,5;t1,1,5;t2,1,4;f1;");
        T.due("who comes again", again.king(2, 1), 4);
        T.due("he is", again.king(2, 0), 0);
    }

    /** "one be ARRANGED (as one more, 9 in all at most)" */
    private static void thingsAreNineWithTheArranged() {
        for (int told = 0; told <= 9; told++) {
            BoredKings x = Due.court("p0,0,1;" + "t0,1,1;".repeat(told));
            for (int k = told; k < 9; k++) {
                T.due("arrange as " + k, x.arrange(k, 1, 1), k);
                T.due("things", x.count(1), k + 1);
                T.due("its day", x.thing(k, 0), k);
            }
            T.due("arrange as the tenth", x.arrange(0, 1, 1), FULL);
            T.due("things", x.count(1), 9);
            T.due("can be undone", x.count(5), Math.min(9 - told, 8));
            T.due("no tenth", x.thing(9, 0), BAD);
        }
        BoredKings hidden = Due.court("p0,0,1;" + "t0,1,1;".repeat(9));
        hidden.hide(0);
        T.due("hidden ones count", hidden.arrange(0, 1, 1), FULL);
        BoredKings undone = Due.court("p0,0,1;" + "t0,1,1;".repeat(8));
        undone.arrange(3, 1, 1);
        T.due("full", undone.arrange(4, 1, 1), FULL);
        undone.undo();
        T.due("not full when undone", undone.arrange(4, 1, 1), 8);
        T.due("the day of the other", undone.thing(8, 0), 4);
    }

    /** "on a DAY that has not gone by", promise 10: "on a DAY (0 to 999)" */
    private static void arrangedOnADayToCome() {
        int[] days = {0, 1, 2, 60, 61, 980, 998, 999};
        for (int day : days) {
            BoredKings x = new BoredKings();
            passTo(x, day);
            T.due("the day", x.count(2), day);
            T.due("yesterday", x.arrange(day - 1, 1, 1), day == 0 ? BAD : NO);
            T.due("the first", x.arrange(0, 1, 1), day == 0 ? 7 : NO);
            T.due("today", x.arrange(day, 1, 1), day == 0 ? 8 : 7);
            BoredKings later = new BoredKings();
            passTo(later, day);
            T.due("tomorrow", later.arrange(day + 1, 1, 1), day == 999 ? BAD : 7);
            T.due("the last", later.arrange(999, 1, 1), day == 999 ? 7 : 8);
            T.due("behind the last", later.arrange(1000, 1, 1), BAD);
        }
        BoredKings x = Due.court("p0,1,60;");
        x.arrange(999, 1, 9);
        passTo(x, 959);
        T.due("on the last", x.king(40, 1), 9);
        passTo(x, 999);
        T.due("on the last, now", x.king(0, 1), 9);
    }

    private static void arrangedByNumbersTold() {
        for (int topics = -2; topics <= 34; topics++) {
            BoredKings x = new BoredKings();
            T.due("arrange(0, " + topics + ", 1)", x.arrange(0, topics, 1), topics >= 1 && topics <= 31 ? 7 : BAD);
            T.due("its topics", x.thing(7, 1), topics >= 1 && topics <= 31 ? topics : BAD);
        }
        for (int s = -2; s <= 12; s++) {
            BoredKings x = new BoredKings();
            T.due("arrange(0, 1, " + s + ")", x.arrange(0, 1, s), s >= 1 && s <= 9 ? 7 : BAD);
            T.due("its strength", x.thing(7, 2), s >= 1 && s <= 9 ? s : BAD);
        }
    }

    /** "A THING can be HIDDEN, or shown again": each of nine, one gone by, too. */
    private static void hiddenAndShown() {
        BoredKings x = Due.court("p0,0,1;" + "t0,1,1;".repeat(9));
        for (int k = 0; k < 9; k++) {
            T.due("hide(" + k + ")", x.hide(k), 1);
            T.due("hidden", x.count(3), k + 1);
        }
        x.pass(1);
        for (int k = 0; k < 9; k++) {
            T.due("hide(" + k + ") again", x.hide(k), 0);
            T.due("hidden", x.count(3), 8 - k);
        }
        T.due("hide(9)", x.hide(9), BAD);
        T.due("hide(-1)", x.hide(-1), BAD);
        T.due("of none", Due.court("p0,0,1;").hide(0), BAD);
    }

    /** Promise 8: "n (1 to 20) DAYS go by" */
    private static void daysGoByUpToTwenty() {
        for (int n = -1; n <= 22; n++) {
            boolean isTold = n >= 1 && n <= 20;
            BoredKings x = Due.court("p0,1,1;t0,1,1;t19,1,1;t20,1,1;");
            T.due("pass(" + n + ")", x.pass(n), !isTold ? BAD : n == 20 ? 2 : 1);
            T.due("the day", x.count(2), isTold ? n : 0);
            T.due("can be undone", x.count(5), isTold ? 1 : 0);
            T.due("reigned", x.person(0, 4), isTold ? n : 0);
        }
    }

    /** Promise 8: "NO: above DAY 999" */
    private static void daysGoByUpToTheLast() {
        for (int day = 978; day <= 999; day++) {
            for (int n = 1; n <= 20; n++) {
                BoredKings x = new BoredKings();
                passTo(x, day);
                boolean isAbove = day + n > 999;
                T.due("pass(" + n + ") on " + day, x.pass(n), isAbove ? NO : 0);
                T.due("the day", x.count(2), isAbove ? day : day + n);
            }
        }
    }

    /** "(the last 8 can be)" */
    private static void lastEightCanBeUndone() {
        for (int acts = 0; acts <= 20; acts++) {
            BoredKings x = new BoredKings();
            for (int n = 1; n <= acts; n++) {
                x.pass(1);
                T.due("can be undone behind " + n, x.count(5), Math.min(n, 8));
            }
            int most = Math.min(acts, 8);
            for (int left = most - 1; left >= 0; left--) {
                T.due("undo()", x.undo(), left);
                T.due("can be undone", x.count(5), left);
                T.due("the day", x.count(2), acts - most + left);
            }
            T.due("undo() of no more", x.undo(), NO);
            T.due("the day is left", x.count(2), acts - most);
            T.due("undo() of no more, again", x.undo(), NO);
        }
    }

    /** A court in which so many things were done: days gone by, arranged, hidden. */
    private static BoredKings done(int acts) {
        BoredKings x = Due.court("p0,1,9;p0,1,9;t0,1,8;t1,1,8;t2,1,8;f1;");
        for (int n = 1; n <= acts; n++) {
            if (n % 3 == 0) {
                x.hide(n % 2);
            } else if (n % 3 == 1) {
                x.pass(1);
            } else {
                x.arrange(n, 1, 1);
            }
        }
        return x;
    }

    private static void undoneOfEachKind() {
        BoredKings x = done(8);
        T.due("can be undone", x.count(5), 8);
        for (int n = 7; n >= 0; n--) {
            T.due("undo()", x.undo(), n);
            T.same("as behind " + n, Due.state(x), Due.state(done(n)));
        }
        T.due("undo()", x.undo(), NO);
        T.same("as at first", Due.state(x), Due.state(done(0)));
    }

    private static void refusedIsNotUndone() {
        BoredKings x = Due.court("p0,0,1;" + "t0,1,1;".repeat(9));
        x.pass(1);
        x.pass(0);
        x.pass(21);
        x.hide(9);
        x.hide(-1);
        x.arrange(1, 1, 1);
        x.arrange(0, 1, 1);
        x.arrange(1, 0, 1);
        T.due("can be undone", x.count(5), 1);
        T.due("undo()", x.undo(), 0);
        T.due("undo() of no more", x.undo(), NO);
    }
}
