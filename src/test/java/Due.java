/** What a test of the project needs: it counts the answers that are not as due, and makes courts of texts. */
final class Due {
    private final String test;
    private int asked;
    private int wrong;

    Due(String test) {
        this.test = test;
    }

    void due(String call, long got, long want) {
        asked++;
        if (got != want) {
            wrong++;
            System.out.println(test + ": " + call + " answered " + got + ", due is " + want);
        }
    }

    void same(String call, String got, String want) {
        asked++;
        if (!got.equals(want)) {
            wrong++;
            System.out.println(test + ": " + call + " is [" + got + "], due is [" + want + "]");
        }
    }

    /** Tells how it went; the Java machine ends with 1 if an answer was wrong, or none was asked for. */
    void end() {
        System.out.println(test + ": " + (asked - wrong) + " of " + asked + " answers as due");
        if (wrong != 0 || asked == 0) {
            System.exit(1);
        }
    }

    static void write(BoredKings kings, String text) {
        for (int i = 0; i < text.length(); i++) {
            kings.write(text.charAt(i));
        }
    }

    /** A new object in which the text is laid. */
    static BoredKings court(String text) {
        BoredKings kings = new BoredKings();
        write(kings, text);
        if (kings.lay() < 1) {
            throw new IllegalStateException("this can't be laid: " + text);
        }
        return kings;
    }

    /** All that calls change, by some 60 calls. */
    static String state(BoredKings kings) {
        StringBuilder all = new StringBuilder();
        int persons = kings.count(0);
        int things = kings.count(1);
        all.append(persons).append(' ').append(things).append(' ');
        for (int what = 2; what <= 8; what++) {
            all.append(kings.count(what)).append(' ');
        }
        for (int i = 0; i < persons; i++) {
            all.append('p').append(kings.person(i, 3)).append(' ').append(kings.person(i, 4)).append(' ');
        }
        for (int k = 0; k < things; k++) {
            all.append('t').append(kings.thing(k, 0)).append(' ').append(kings.thing(k, 1)).append(' ')
                .append(kings.thing(k, 2)).append(' ').append(kings.thing(k, 3)).append(' ');
        }
        all.append('k').append(kings.king(0, 0)).append(' ').append(kings.king(0, 1)).append(' ');
        return all.append('f').append(kings.fault()).toString();
    }
}
