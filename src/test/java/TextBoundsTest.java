/** 'What it is': each bound that is told of a TEXT and of its ITEMS has a test of its own. */
public final class TextBoundsTest {
    private static final int NO = BoredKings.NO, FULL = BoredKings.FULL, NONE = BoredKings.NONE;
    private static final Due T = new Due("TextBoundsTest");
    private static final String FIGURES = "0123456789";
    private static final String SOME_FIGURES = "123456789";

    public static void main(String[] args) {
        lettersAreTwoHundredAtMost();
        aTextMayBeEmpty();
        lettersOfAnItem();
        numbersAreOfOneOrTwoFigures();
        numbersAreParted();
        anItemHasItsNumbersAndNoMore();
        anItemIsWhole();
        kindIsZeroToThree();
        tasteIsZeroToThirtyOne();
        oneStandsOneToSixty();
        personsAreSixAtMost();
        zeroIsOnTheThrone();
        dayIsZeroToSixty();
        topicsAreOneToThirtyOne();
        strengthIsOneToNine();
        thingsAreNineAtMost();
        fadeIsOneToNine();
        fadeIsTwoWithout();
        fadeIsTheLastOne();
        faultIsOfTheFirst();
        faultFarBehind();
        T.end();
    }

    private static int faultOf(String text) {
        BoredKings x = new BoredKings();
        Due.write(x, text);
        return x.fault();
    }

    private static void fault(String text, int want) {
        T.due("fault() of " + text, faultOf(text), want);
    }

    /** "A TEXT is letters (200 at most)" */
    private static void lettersAreTwoHundredAtMost() {
        String whole = "p0,10,10;".repeat(6) + "t10,10,9;".repeat(9) + "f1;".repeat(19) + "f01;f03;";
        T.due("its length", whole.length(), 200);
        BoredKings x = new BoredKings();
        for (int n = 0; n < 200; n++) {
            T.due("write behind " + n, x.write(whole.charAt(n)), n + 1);
            T.due("letters behind " + n, x.count(7), n + 1);
        }
        T.due("write behind 200", x.write(';'), FULL);
        T.due("letters", x.count(7), 200);
        T.due("fault() of 200 letters", x.fault(), NONE);
        T.due("lay() of 200 letters", x.lay(), 6);
        T.due("its things", x.count(1), 9);
        T.due("its last item", x.count(8), 3);
        T.due("write behind lay()", x.write(';'), FULL);
        T.due("wipe() of 200 letters", x.wipe(), 200);
        T.due("write then", x.write('f'), 1);
    }

    private static void aTextMayBeEmpty() {
        BoredKings x = new BoredKings();
        T.due("letters at first", x.count(7), 0);
        T.due("fault() at first", x.fault(), NONE);
        T.due("lay() at first", x.lay(), NO);
        Due.write(x, "p");
        T.due("fault() of a letter", x.fault(), 0);
        T.due("wipe()", x.wipe(), 1);
        T.due("letters when wiped", x.count(7), 0);
        T.due("fault() when wiped", x.fault(), NONE);
        T.due("lay() when wiped", x.lay(), NO);
    }

    /** Each letter of an item may be one of these; by each other one of the 95 the item is not so. */
    private static void lettersOf(String item, String... good) {
        for (int place = 0; place < item.length(); place++) {
            for (char letter = 32; letter <= 126; letter++) {
                String text = item.substring(0, place) + letter + item.substring(place + 1);
                boolean isGood = good[place].indexOf(letter) >= 0;
                fault(text, isGood ? NONE : 0);
                fault("f1;" + text, isGood ? NONE : 3);
            }
        }
    }

    private static void lettersOfAnItem() {
        lettersOf("p0,0,1;", "p", "0123", ",", FIGURES, ",", SOME_FIGURES, ";");
        lettersOf("t5,5,5;", "t", FIGURES, ",", SOME_FIGURES, ",", SOME_FIGURES, ";");
        lettersOf("f5;", "f", SOME_FIGURES, ";");
    }

    /** "numbers (one or two figures)" */
    private static void numbersAreOfOneOrTwoFigures() {
        String[] one = {"p1,1,1;", "t1,1,1;", "f1;"};
        for (String item : one) {
            for (int place = 1; place < item.length(); place += 2) {
                String ahead = item.substring(0, place);
                String behind = item.substring(place + 1);
                fault(ahead + behind, 0);
                fault(ahead + "1" + behind, NONE);
                fault(ahead + "01" + behind, NONE);
                fault(ahead + "001" + behind, 0);
                fault(ahead + "0001" + behind, 0);
                fault(ahead + "100" + behind, 0);
                fault(ahead + "-1" + behind, 0);
                fault(ahead + "+1" + behind, 0);
                fault(ahead + "1.0" + behind, 0);
            }
        }
        fault("p3,31,60;t60,31,9;f9;", NONE);
        fault("p03,31,60;t60,31,09;f09;", NONE);
        fault("p4294967296,0,1;", 0);
        fault("f4294967297;", 0);
    }

    /** "parted by ," */
    private static void numbersAreParted() {
        String[] wrong = {"p0;0,1;", "p0,0;1;", "p0 0,1;", "p0,0 1;", "p0,,0,1;", "p0,0,,1;", "p,0,0,1;", "p0,0,1,;", "p001;",
            "p0.0.1;", "t0;1,1;", "t0,1;1;", "t0,,1,1;", "t,0,1,1;", "t0,1,1,;", "t011;", "f,1;", "f1,;"};
        for (String text : wrong) {
            fault(text, 0);
            fault("p0,0,1;" + text, 7);
        }
    }

    private static void anItemHasItsNumbersAndNoMore() {
        String[] letters = {"p", "t", "f"};
        int[] due = {3, 3, 1};
        for (int i = 0; i < letters.length; i++) {
            String text = letters[i];
            fault(text + ";", 0);
            for (int numbers = 1; numbers <= 5; numbers++) {
                text = text + (numbers > 1 ? "," : "") + "1";
                fault(text + ";", numbers == due[i] ? NONE : 0);
            }
        }
    }

    /** "a ; behind the last one": a text that ends within an item has a fault at its first letter. */
    private static void anItemIsWhole() {
        String text = "p0,10,10;t10,10,9;f9;";
        for (int length = 0; length <= text.length(); length++) {
            int begun = text.lastIndexOf(';', length - 1) + 1;
            fault(text.substring(0, length), begun == length ? NONE : begun);
        }
        fault("p0,0,1;;", 7);
        fault("p0,0,1 ;", 0);
        fault("p0,0,1; ", 7);
        fault(" p0,0,1;", 0);
    }

    /** An item with one number open, all that number can be, as one figure and as two; what the court says of it then. */
    private static void numberOf(String ahead, String behind, int least, int most) {
        for (int number = 0; number <= 99; number++) {
            boolean isTold = least <= number && number <= most;
            String two = ahead + number / 10 + number % 10 + behind;
            fault(two, isTold ? NONE : 0);
            fault("f1;" + two + "f0;", isTold ? 3 + two.length() : 3);
            if (number <= 9) {
                fault(ahead + number + behind, isTold ? NONE : 0);
            }
        }
    }

    private static BoredKings courtWith(String ahead, int number, String behind) {
        return Due.court(ahead + number + behind + "p0,0,1;");
    }

    /** "KIND K (0 PLAIN, 1 STEADY, 2 CURIOUS, 3 SLEEPY)" */
    private static void kindIsZeroToThree() {
        numberOf("p", ",0,1;", 0, 3);
        for (int kind = 0; kind <= 3; kind++) {
            T.due("kind", courtWith("p", kind, ",0,1;").person(0, 0), kind);
        }
        int[] interest = {5, 2, 7, 0};
        for (int kind = 0; kind <= 3; kind++) {
            T.due("interest by kind " + kind, Due.court("p" + kind + ",1,60;t2,1,5;").king(2, 1), interest[kind]);
        }
    }

    /** "TOPICS T (0 to 31, as bits)" */
    private static void tasteIsZeroToThirtyOne() {
        numberOf("p0,", ",1;", 0, 31);
        for (int taste = 0; taste <= 31; taste++) {
            BoredKings x = courtWith("t0,1,1;t1,2,1;t2,4,1;t3,8,1;t4,16,1;f9;p0,", taste, ",60;");
            T.due("taste", x.person(0, 1), taste);
            for (int topic = 0; topic <= 4; topic++) {
                T.due("interest by " + topic, x.king(topic, 1), taste >> topic & 1);
            }
        }
    }

    /** "who STANDS L (1 to 60)" */
    private static void oneStandsOneToSixty() {
        numberOf("p0,0,", ";", 1, 60);
        for (int stands = 1; stands <= 60; stands++) {
            T.due("stands", courtWith("p0,0,", stands, ";").person(0, 2), stands);
        }
    }

    /** "6 at most" */
    private static void personsAreSixAtMost() {
        for (int persons = 1; persons <= 8; persons++) {
            String text = "p0,0,1;".repeat(persons);
            fault(text, persons <= 6 ? NONE : 42);
            fault("t0,1,1;" + text + "f3;", persons <= 6 ? NONE : 49);
            BoredKings x = new BoredKings();
            Due.write(x, text);
            T.due("lay() of " + persons, x.lay(), persons <= 6 ? persons : NO);
            T.due("persons of " + persons, x.count(0), persons <= 6 ? persons : 4);
        }
    }

    /** "who are in the gallery in this order, 0 on the throne" */
    private static void zeroIsOnTheThrone() {
        for (int persons = 1; persons <= 6; persons++) {
            BoredKings x = Due.court("p0,0,1;".repeat(persons));
            T.due("who reigns of " + persons, x.king(0, 0), 0);
            for (int i = 0; i < persons; i++) {
                T.due("place of " + i, x.person(i, 3), i);
            }
        }
    }

    /** "DAY D (0 to 60)" */
    private static void dayIsZeroToSixty() {
        numberOf("t", ",1,1;", 0, 60);
        for (int day = 0; day <= 60; day++) {
            T.due("day", courtWith("t", day, ",1,1;").thing(0, 0), day);
        }
    }

    /** "of TOPICS T (1 to 31)" */
    private static void topicsAreOneToThirtyOne() {
        numberOf("t0,", ",1;", 1, 31);
        for (int topics = 1; topics <= 31; topics++) {
            BoredKings x = Due.court("p0,31,60;t0," + topics + ",1;");
            T.due("topics", x.thing(0, 1), topics);
            T.due("interest", x.king(0, 1), Integer.bitCount(topics));
        }
    }

    /** "S (1 to 9) STRONG" */
    private static void strengthIsOneToNine() {
        numberOf("t0,1,", ";", 1, 9);
        for (int s = 1; s <= 9; s++) {
            BoredKings x = Due.court("p0,1,60;t0,1," + s + ";");
            T.due("strength", x.thing(0, 2), s);
            T.due("interest", x.king(0, 1), s);
        }
    }

    /** "9 at most" */
    private static void thingsAreNineAtMost() {
        for (int things = 0; things <= 11; things++) {
            String text = "t0,1,1;".repeat(things);
            fault(text, things <= 9 ? NONE : 63);
            fault("f3;" + text + "p0,0,1;", things <= 9 ? NONE : 66);
            BoredKings x = new BoredKings();
            Due.write(x, text + "p0,0,1;");
            T.due("lay() with " + things, x.lay(), things <= 9 ? 1 : NO);
            T.due("things of " + things, x.count(1), things <= 9 ? things : 7);
        }
    }

    /** "fF interest FADES by F (1 to 9" */
    private static void fadeIsOneToNine() {
        numberOf("f", ";", 1, 9);
        for (int fade = 1; fade <= 9; fade++) {
            BoredKings x = Due.court("p0,1,60;t0,1,9;f" + fade + ";");
            T.due("F", x.count(8), fade);
            T.due("interest a day later", x.king(1, 1), 9 / fade);
        }
    }

    /** "2 without" */
    private static void fadeIsTwoWithout() {
        BoredKings x = Due.court("p0,1,60;t0,1,9;");
        T.due("F without", x.count(8), 2);
        T.due("interest a day later", x.king(1, 1), 4);
        x.wipe();
        Due.write(x, "f7;p0,0,1;");
        x.lay();
        T.due("F with", x.count(8), 7);
        x.wipe();
        Due.write(x, "p0,0,1;");
        T.due("F ahead of lay()", x.count(8), 7);
        x.lay();
        T.due("F without, once more", x.count(8), 2);
    }

    /** "the last one" */
    private static void fadeIsTheLastOne() {
        T.due("of two", Due.court("f1;p0,0,1;f9;").count(8), 9);
        T.due("of two, the other way", Due.court("f9;f1;p0,0,1;").count(8), 1);
        T.due("of three", Due.court("f9;p0,0,1;f1;t0,1,1;f5;").count(8), 5);
        T.due("of many", Due.court("p0,0,1;" + "f1;f2;f3;".repeat(20) + "f4;").count(8), 4);
        fault("f1;f0;", 3);
    }

    /** "FAULT: the place of the first letter of the first ITEM that is not so" */
    private static void faultIsOfTheFirst() {
        fault("p4,0,1;t61,1,1;", 0);
        fault("p0,0,1;t61,1,1;p4,0,1;", 7);
        fault("f1;p4,0,1;f0;", 3);
        fault("p0,0,1;".repeat(7) + "t0,0,1;", 42);
        fault("t0,0,1;" + "p0,0,1;".repeat(7), 0);
        fault("p0,0,1;".repeat(6) + "p4,0,1;", 42);
        fault("p0,0,1;".repeat(6) + "t0,1,1;".repeat(9) + "t0,1,1;p0,0,1;", 105);
        fault("p4,0,1;" + "p0,0,1;".repeat(6), 0);
    }

    private static void faultFarBehind() {
        fault("f1;".repeat(65) + "f01;f", 199);
        fault("f1;".repeat(66) + "f1", 198);
        fault("f1;".repeat(65) + "f01;", NONE);
        fault("f1;".repeat(64) + "f01;f01;", NONE);
        fault("f1;".repeat(64) + "f01;f10;", 196);
    }
}
