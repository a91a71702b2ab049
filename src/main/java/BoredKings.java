import java.util.Arrays;

/** King for as long as he is bored: a court told in a text, its days, and what can be asked of them. */
public final class BoredKings {
    public static final int BAD = -1, NO = -2, FULL = -3, NONE = -4;

    private static final int MOST_LETTERS = 200;
    private static final int MOST_PERSONS = 6;
    private static final int MOST_THINGS = 9;
    private static final int MOST_SEEN = 8;
    private static final int MOST_UNDONE = 8;
    private static final int MOST_KEPT = 2;
    private static final int MOST_ORDERS = 720;

    private static final int PLAIN = 0;
    private static final int STEADY = 1;
    private static final int CURIOUS = 2;
    private static final int SLEEPY = 3;

    private static final int TOPICS = 5;
    private static final int ALL_TOPICS = 31;
    private static final int MOST_STANDING = 60;
    private static final int STRONGEST = 9;
    private static final int FASTEST_FADE = 9;
    private static final int USUAL_FADE = 2;

    private static final int LAST_TOLD_DAY = 60;
    private static final int LAST_DAY = 999;
    private static final int LONGEST_PASS = 20;
    private static final int FARTHEST = 40;
    private static final int RAISING_DAYS = 20;
    private static final int NONE_MORE = 1000;
    private static final int LONGEST_CHANCE = 6;
    private static final int LONGEST_YEAR = 60;
    private static final int LAST_YEAR = 9999;
    private static final int MOST_DAYS = 61;

    private static final String FIRST_TEXT =
        "p0,3,6;p1,5,5;p2,12,9;p3,6,4;t0,1,3;t1,2,4;t2,7,2;t2,8,5;t4,4,6;t5,16,9;t7,3,3;f2;";

    private final Script script;
    private final Court draft;
    private final Court laid;
    private final Moment now;
    private final Shelf acts;
    private final Shelf shelf;
    private final Sightings sightings;
    private final Outlook outlook;
    private final Reign reign;
    private final int[] bestOrder;

    public BoredKings() {
        script = new Script();
        draft = new Court();
        laid = new Court();
        now = new Moment();
        acts = new Shelf(MOST_UNDONE);
        shelf = new Shelf(MOST_KEPT);
        sightings = new Sightings();
        outlook = new Outlook(laid);
        reign = new Reign(laid, outlook);
        bestOrder = new int[MOST_PERSONS];
        for (int i = 0; i < FIRST_TEXT.length(); i++) {
            script.append(FIRST_TEXT.charAt(i));
        }
        laid.read(script);
        now.begin(laid);
        script.clear();
    }

    // ---- courts

    public int write(int letter) {
        if (letter < 32 || letter > 126) {
            return BAD;
        }
        return script.append(letter) ? script.length : FULL;
    }

    public int wipe() {
        int was = script.length;
        script.clear();
        return was;
    }

    public int fault() {
        return draft.read(script);
    }

    public int lay() {
        if (draft.read(script) != NONE || draft.persons == 0) {
            return NO;
        }
        laid.read(script);
        now.begin(laid);
        acts.clear();
        shelf.clear();
        sightings.clear();
        return laid.persons;
    }

    public int person(int i, int what) {
        if (!isPerson(i)) {
            return BAD;
        }
        switch (what) {
            case 0:
                return laid.kind[i];
            case 1:
                return laid.taste[i];
            case 2:
                return laid.stands[i];
            case 3:
                return placeOf(i);
            case 4:
                return now.reigned[i];
            default:
                return BAD;
        }
    }

    public int thing(int k, int what) {
        if (!isThing(k)) {
            return BAD;
        }
        switch (what) {
            case 0:
                return now.things.day[k];
            case 1:
                return now.things.topics[k];
            case 2:
                return now.things.strength[k];
            case 3:
                return now.isHidden(k) ? 1 : 0;
            default:
                return BAD;
        }
    }

    // ---- acts

    public int pass(int n) {
        if (n < 1 || n > LONGEST_PASS) {
            return BAD;
        }
        if (now.day + n > LAST_DAY) {
            return NO;
        }
        acts.put(now);
        lookAhead(n);
        reign.start(now);
        int bells = 0;
        for (int d = 0; d < n; d++) {
            now.addReigned(reign.reigning());
            if (reign.live(d)) {
                bells++;
            }
        }
        now.day += n;
        now.king = reign.reigning();
        now.interest = reign.interest;
        return bells;
    }

    public int hide(int k) {
        if (!isThing(k)) {
            return BAD;
        }
        acts.put(now);
        now.hidden ^= 1 << k;
        return now.isHidden(k) ? 1 : 0;
    }

    public int arrange(int day, int topics, int s) {
        if (day < 0 || day > LAST_DAY || !isTopics(topics) || !isStrength(s)) {
            return BAD;
        }
        if (day < now.day) {
            return NO;
        }
        if (now.things.size >= MOST_THINGS) {
            return FULL;
        }
        acts.put(now);
        now.things.add(day, topics, s);
        return now.things.size - 1;
    }

    public int undo() {
        return acts.takeInto(now) ? acts.size : NO;
    }

    // ---- reigns

    public int king(int d, int what) {
        if (!isDayFromNow(d) || !isHalf(what)) {
            return BAD;
        }
        lookAhead(d + 1);
        reign.start(now);
        for (int e = 0; e < d; e++) {
            reign.live(e);
        }
        int who = reign.reigning();
        reign.ringsOn(d);
        return what == 0 ? who : reign.interest;
    }

    public int bell() {
        lookAhead(FARTHEST + 1);
        int first = firstBell();
        return first > FARTHEST ? NONE : first;
    }

    public int hides(int n) {
        if (n < 1 || n > FARTHEST) {
            return BAD;
        }
        lookAhead(n);
        // a thing of no day that is looked at would only make the set larger
        int candidates = outlook.shownAtAll();
        int best = NONE;
        int fewest = MOST_THINGS + 1;
        for (int more = 0; more <= candidates; more++) {
            if ((more & ~candidates) == 0 && Integer.bitCount(more) < fewest && staysWithout(more, n)) {
                best = more;
                fewest = Integer.bitCount(more);
            }
        }
        return best;
    }

    public int raise(int i, int what) {
        if (!isPerson(i) || !isHalf(what)) {
            return BAD;
        }
        lookAhead(FARTHEST);
        int soonest = firstReignOf(i);
        int arranged = NONE_MORE;
        for (int d = 0; d < RAISING_DAYS; d++) {
            for (int topic = 0; topic < TOPICS; topic++) {
                outlook.add(d, 1 << topic, STRONGEST);
                int first = firstReignOf(i);
                outlook.takeAway(d, 1 << topic, STRONGEST);
                if (first < soonest) {
                    soonest = first;
                    arranged = 10 * d + topic;
                }
            }
        }
        if (soonest > FARTHEST) {
            return NONE;
        }
        return what == 0 ? arranged : soonest;
    }

    public int order(int n, int k) {
        if (n < 1 || n > FARTHEST || k < -1 || k >= laid.persons) {
            return BAD;
        }
        lookAhead(n);
        reign.lineUp();
        int least = n + 1;
        for (int tried = 0; tried < MOST_ORDERS && least > 0; tried++) {
            int bells = bellsInOrder(n, least);
            if (bells < least) {
                least = bells;
                reign.copyLine(bestOrder);
            }
            // whoever has not come to the throne may stand anywhere: all those orders are as this one
            if (!reign.lineUpNext(bells + 1)) {
                break;
            }
        }
        return k < 0 ? least : bestOrder[k];
    }

    public int away(int what) {
        if (!isHalf(what)) {
            return BAD;
        }
        int best = NONE;
        int latest = NONE;
        for (int k = 0; k < now.things.size; k++) {
            if (!now.isHidden(k)) {
                outlook.look(now.things, now.hidden | 1 << k, now.day, FARTHEST + 1);
                int first = firstBell();
                if (first > latest) {
                    latest = first;
                    best = k;
                }
            }
        }
        return what == 0 ? best : latest;
    }

    // ---- what was seen

    public int seen(int i, int day) {
        if (!isPerson(i) || day < 0 || day > LAST_TOLD_DAY) {
            return BAD;
        }
        return sightings.add(i, day) ? sightings.size : FULL;
    }

    public int forget() {
        int were = sightings.size;
        sightings.clear();
        return were;
    }

    public int tastes(int i, int what) {
        if (!isPerson(i) || !isHalf(what)) {
            return BAD;
        }
        outlook.look(laid.things, 0, 0, LAST_TOLD_DAY + 1);
        int fitting = 0;
        int first = NONE;
        for (int taste = 0; taste <= ALL_TOPICS; taste++) {
            outlook.weigh(i, taste);
            if (wasSo()) {
                fitting++;
                first = first == NONE ? taste : first;
            }
        }
        return what == 0 ? fitting : first;
    }

    // ---- how likely, who is content

    public int lasts(int n, int topics, int s, int x, int part) {
        if (n < 0 || n > LONGEST_CHANCE || !isTopics(topics) || !isStrength(s) || x < 0 || x > 10 || !isHalf(part)) {
            return BAD;
        }
        lookAhead(n);
        int good = 0;
        for (int days = 0; days < 1 << n; days++) {
            if (staysWith(topics, s, days, n)) {
                int with = Integer.bitCount(days);
                good += power(x, with) * power(10 - x, n - with);
            }
        }
        int all = power(10, n);
        int common = Math.max(1, greatestDivisor(all, good));
        return part == 0 ? good / common : all / common;
    }

    public int content(int d) {
        if (!isDayFromNow(d)) {
            return BAD;
        }
        lookAhead(d + 1);
        int bits = 0;
        for (int i = 0; i < laid.persons; i++) {
            if (outlook.gainOf(d, i) >= laid.standsOf(i)) {
                bits |= 1 << i;
            }
        }
        return bits;
    }

    public int dull(int what) {
        if (!isHalf(what)) {
            return BAD;
        }
        lookAhead(FARTHEST);
        reign.start(now);
        int longest = 0;
        int from = NONE;
        int row = 0;
        for (int d = 0; d < FARTHEST; d++) {
            row = reign.live(d) ? 0 : row + 1;
            if (row > longest) {
                longest = row;
                from = d - row + 1;
            }
        }
        return what == 0 ? longest : from;
    }

    public int year(int z, int n, int what) {
        if (z < 0 || z > LAST_YEAR || n < 1 || n > LONGEST_YEAR || !isHalf(what)) {
            return BAD;
        }
        lookAhead(n);
        reign.start(now);
        int bells = 0;
        for (int k = 0; k < n; k++) {
            int draw = draw(z, k);
            if (draw % 3 == 0) {
                outlook.add(k, 1 << (draw / 4 % TOPICS), draw / 32 % STRONGEST + 1);
            }
            if (reign.live(k)) {
                bells++;
            }
        }
        return what == 0 ? bells : reign.reigning();
    }

    // ---- kept

    public int keep() {
        if (shelf.size >= MOST_KEPT) {
            return FULL;
        }
        shelf.put(now);
        return shelf.size;
    }

    public int back() {
        if (!shelf.takeInto(now)) {
            return NO;
        }
        acts.clear();
        return shelf.size;
    }

    public int count(int what) {
        switch (what) {
            case 0:
                return laid.persons;
            case 1:
                return now.things.size;
            case 2:
                return now.day;
            case 3:
                return Integer.bitCount(now.hidden);
            case 4:
                return sightings.size;
            case 5:
                return acts.size;
            case 6:
                return shelf.size;
            case 7:
                return script.length;
            case 8:
                return laid.fade;
            default:
                return BAD;
        }
    }

    // ---- what is told

    private boolean isPerson(int i) {
        return i >= 0 && i < laid.persons && i < MOST_PERSONS;
    }

    private boolean isThing(int k) {
        return k >= 0 && k < now.things.size && k < MOST_THINGS;
    }

    private static boolean isTopics(int topics) {
        return topics >= 1 && topics <= ALL_TOPICS;
    }

    private static boolean isStrength(int s) {
        return s >= 1 && s <= STRONGEST;
    }

    private static boolean isDayFromNow(int d) {
        return d >= 0 && d <= FARTHEST;
    }

    /** Whether it names one of the two answers that a call has. */
    private static boolean isHalf(int what) {
        return what == 0 || what == 1;
    }

    // ---- how it is found

    private void lookAhead(int days) {
        outlook.look(now.things, now.hidden, now.day, days);
    }

    /** The gallery only ever turns, so a place in it is how far behind the king one stands. */
    private int placeOf(int i) {
        int place = i - now.king;
        return place < 0 ? place + laid.persons : place;
    }

    /** The first day from now on which the bell goes, up to the farthest; one more: none. */
    private int firstBell() {
        reign.start(now);
        for (int d = 0; d <= FARTHEST; d++) {
            if (reign.ringsOn(d)) {
                return d;
            }
        }
        return FARTHEST + 1;
    }

    /** The first day from now on which a person reigns, up to the farthest; one more: none. */
    private int firstReignOf(int person) {
        reign.start(now);
        for (int d = 0; d <= FARTHEST; d++) {
            if (reign.reigning() == person) {
                return d;
            }
            reign.live(d);
        }
        return FARTHEST + 1;
    }

    /** Whether no bell goes on n days if these things (bits) are hidden, too. */
    private boolean staysWithout(int things, int n) {
        int king = now.king;
        int interest = now.interest;
        for (int d = 0; d < n; d++) {
            interest = laid.faded(interest) + outlook.gainWithout(d, king, things);
            if (interest >= laid.standsOf(king)) {
                return false;
            }
        }
        return true;
    }

    /** Whether no bell goes on n days if one thing more happens on those of them that are told as bits. */
    private boolean staysWith(int topics, int s, int days, int n) {
        int king = now.king;
        int interest = now.interest;
        for (int d = 0; d < n; d++) {
            interest = laid.faded(interest) + outlook.gainOf(d, king);
            if ((days >> d & 1) == 1) {
                interest += outlook.gainOfOneMore(d, king, topics, s);
            }
            if (interest >= laid.standsOf(king)) {
                return false;
            }
        }
        return true;
    }

    /** How often the bell goes on n days by the order in which they are lined up; beyond enough it is not counted. */
    private int bellsInOrder(int n, int enough) {
        reign.startLine(now);
        int bells = 0;
        for (int d = 0; d < n && bells < enough; d++) {
            if (reign.live(d)) {
                bells++;
            }
        }
        return bells;
    }

    /** Whether all that was seen is so, by what is looked at from the first day on. */
    private boolean wasSo() {
        reign.startFirst();
        int last = sightings.lastDay();
        for (int d = 0; d <= last; d++) {
            if (!sightings.agrees(d, reign.reigning())) {
                return false;
            }
            reign.live(d);
        }
        return true;
    }

    private static int draw(int z, int k) {
        long x = 7919L * z + 6151L * k + 1L;
        return (int) (x * x % 65521L / 2L);
    }

    private static int power(int base, int times) {
        int all = 1;
        for (int i = 0; i < times; i++) {
            all *= base;
        }
        return all;
    }

    private static int greatestDivisor(int a, int b) {
        for (int turn = 0; turn < 64 && b != 0; turn++) {
            int rest = a % b;
            a = b;
            b = rest;
        }
        return a;
    }

    /** What comes to one's interest by one thing, behind those whose topics the day has had. */
    private static int comesBy(int kind, int taste, int topics, int strength, int had, int day) {
        int all = strength * Integer.bitCount(topics & taste);
        switch (kind) {
            case STEADY:
                return all / 2;
            case CURIOUS:
                return (topics & ~had) != 0 ? all + 2 : all;
            case SLEEPY:
                return day % 3 == 2 ? 0 : all;
            default:
                return all;
        }
    }

    /** THE TEXT, letter by letter. */
    private static final class Script {
        private final int[] letters = new int[MOST_LETTERS];
        private int length;

        boolean append(int letter) {
            if (length >= MOST_LETTERS) {
                return false;
            }
            letters[length] = letter;
            length++;
            return true;
        }

        void clear() {
            length = 0;
        }

        /** The letter of a place; behind the end one that is none. */
        int letterAt(int place) {
            return place >= 0 && place < length && place < MOST_LETTERS ? letters[place] : -1;
        }

        boolean isFigure(int place) {
            int letter = letterAt(place);
            return letter >= '0' && letter <= '9';
        }

        /** How many figures stand from a place on; three are as wrong as more. */
        int figuresAt(int place) {
            int figures = 0;
            while (figures < 3 && isFigure(place + figures)) {
                figures++;
            }
            return figures;
        }

        int numberAt(int place, int figures) {
            int number = 0;
            for (int i = 0; i < figures; i++) {
                number = 10 * number + letterAt(place + i) - '0';
            }
            return number;
        }
    }

    /** Things that happen, in the order of their numbers. */
    private static final class Things {
        private final int[] day = new int[MOST_THINGS];
        private final int[] topics = new int[MOST_THINGS];
        private final int[] strength = new int[MOST_THINGS];
        private int size;

        void clear() {
            size = 0;
        }

        boolean add(int onDay, int ofTopics, int strong) {
            if (size >= MOST_THINGS) {
                return false;
            }
            day[size] = onDay;
            topics[size] = ofTopics;
            strength[size] = strong;
            size++;
            return true;
        }

        void copyFrom(Things other) {
            clear();
            for (int k = 0; k < other.size && k < MOST_THINGS; k++) {
                add(other.day[k], other.topics[k], other.strength[k]);
            }
        }
    }

    /** What a text tells: persons, things, how interest fades. */
    private static final class Court {
        private final int[] kind = new int[MOST_PERSONS];
        private final int[] taste = new int[MOST_PERSONS];
        private final int[] stands = new int[MOST_PERSONS];
        private int persons;
        private final Things things = new Things();
        private int fade = USUAL_FADE;
        private final int[] numbers = new int[3];

        /** Reads a text up to its first fault: the fault's place, or NONE. */
        int read(Script script) {
            persons = 0;
            things.clear();
            fade = USUAL_FADE;
            int at = 0;
            for (int item = 0; item < MOST_LETTERS && at < script.length; item++) {
                int letter = script.letterAt(at);
                int end = readNumbers(script, at + 1, numbersOf(letter));
                if (end < 0 || !takes(letter)) {
                    return at;
                }
                at = end;
            }
            return NONE;
        }

        private static int numbersOf(int letter) {
            if (letter == 'p' || letter == 't') {
                return 3;
            }
            return letter == 'f' ? 1 : 0;
        }

        /** Reads so many numbers with what parts them and the end of the item: the place behind it, or less than 0. */
        private int readNumbers(Script script, int from, int wanted) {
            int at = wanted > 0 ? from : -1;
            for (int i = 0; i < wanted && i < numbers.length && at >= 0; i++) {
                int figures = script.figuresAt(at);
                int behind = script.letterAt(at + figures);
                if (figures < 1 || figures > 2 || behind != (i == wanted - 1 ? ';' : ',')) {
                    return -1;
                }
                numbers[i] = script.numberAt(at, figures);
                at += figures + 1;
            }
            return at;
        }

        /** Takes the item whose numbers were read, if it is one that can be. */
        private boolean takes(int letter) {
            switch (letter) {
                case 'p':
                    return takesPerson(numbers[0], numbers[1], numbers[2]);
                case 't':
                    return takesThing(numbers[0], numbers[1], numbers[2]);
                case 'f':
                    return takesFade(numbers[0]);
                default:
                    return false;
            }
        }

        private boolean takesPerson(int ofKind, int withTaste, int standing) {
            if (persons >= MOST_PERSONS || ofKind < PLAIN || ofKind > SLEEPY || withTaste > ALL_TOPICS
                || standing < 1 || standing > MOST_STANDING) {
                return false;
            }
            kind[persons] = ofKind;
            taste[persons] = withTaste;
            stands[persons] = standing;
            persons++;
            return true;
        }

        private boolean takesThing(int onDay, int ofTopics, int strong) {
            return onDay <= LAST_TOLD_DAY && isTopics(ofTopics) && isStrength(strong)
                && things.add(onDay, ofTopics, strong);
        }

        private boolean takesFade(int by) {
            if (by < 1 || by > FASTEST_FADE) {
                return false;
            }
            fade = by;
            return true;
        }

        int faded(int interest) {
            return fade > 0 ? interest / fade : interest;
        }

        int standsOf(int person) {
            return person >= 0 && person < MOST_PERSONS ? stands[person] : MOST_STANDING;
        }
    }

    /** All that acts change, so that one copy undoes or keeps it. */
    private static final class Moment {
        private int day;
        private int king;
        private int interest;
        private int hidden;
        private final int[] reigned = new int[MOST_PERSONS];
        private final Things things = new Things();

        void begin(Court court) {
            day = 0;
            king = 0;
            interest = 0;
            hidden = 0;
            Arrays.fill(reigned, 0);
            things.copyFrom(court.things);
        }

        void copyFrom(Moment other) {
            day = other.day;
            king = other.king;
            interest = other.interest;
            hidden = other.hidden;
            System.arraycopy(other.reigned, 0, reigned, 0, MOST_PERSONS);
            things.copyFrom(other.things);
        }

        boolean isHidden(int k) {
            return (hidden >> k & 1) == 1;
        }

        void addReigned(int person) {
            if (person >= 0 && person < MOST_PERSONS) {
                reigned[person]++;
            }
        }
    }

    /** The latest moments put here, so many at most: one more drives the oldest out. */
    private static final class Shelf {
        private final Moment[] places;
        private int oldest;
        private int size;

        Shelf(int most) {
            places = new Moment[Math.max(most, 1)];
            for (int i = 0; i < places.length; i++) {
                places[i] = new Moment();
            }
        }

        void clear() {
            oldest = 0;
            size = 0;
        }

        private Moment placeBehind(int moments) {
            int at = oldest + moments;
            if (at >= places.length) {
                at -= places.length;
            }
            return at >= 0 && at < places.length ? places[at] : null;
        }

        void put(Moment moment) {
            if (size >= places.length) {
                oldest = oldest + 1 < places.length ? oldest + 1 : 0;
                size--;
            }
            Moment place = placeBehind(size);
            if (place != null) {
                place.copyFrom(moment);
                size++;
            }
        }

        boolean takeInto(Moment moment) {
            Moment place = size > 0 ? placeBehind(size - 1) : null;
            if (place == null) {
                return false;
            }
            moment.copyFrom(place);
            size--;
            return true;
        }
    }

    /** Who was seen to reign on which day. */
    private static final class Sightings {
        private final int[] who = new int[MOST_SEEN];
        private final int[] when = new int[MOST_SEEN];
        private int size;

        void clear() {
            size = 0;
        }

        boolean add(int person, int day) {
            if (size >= MOST_SEEN) {
                return false;
            }
            who[size] = person;
            when[size] = day;
            size++;
            return true;
        }

        boolean agrees(int day, int king) {
            for (int i = 0; i < size && i < MOST_SEEN; i++) {
                if (when[i] == day && who[i] != king) {
                    return false;
                }
            }
            return true;
        }

        /** The last day on which one was seen; before the first, if none was. */
        int lastDay() {
            int last = -1;
            for (int i = 0; i < size && i < MOST_SEEN; i++) {
                last = Math.max(last, when[i]);
            }
            return last;
        }
    }

    /** What comes to each person's interest on each of some days, worked out once for all that run through them. */
    private static final class Outlook {
        private final Court court;
        private Things things;
        private int firstDay;
        private int days;
        private final int[] shown = new int[MOST_DAYS];
        private final int[] had = new int[MOST_DAYS];
        private final int[] gain = new int[MOST_DAYS * MOST_PERSONS];

        Outlook(Court court) {
            this.court = court;
        }

        /** Looks at so many days from one on, with these things but for those hidden (bits). */
        void look(Things at, int hidden, int from, int howMany) {
            things = at;
            firstDay = from;
            days = Math.min(howMany, MOST_DAYS);
            Arrays.fill(shown, 0);
            Arrays.fill(had, 0);
            for (int k = 0; k < at.size && k < MOST_THINGS; k++) {
                int d = at.day[k] - from;
                if (isLookedAt(d) && (hidden >> k & 1) == 0) {
                    shown[d] |= 1 << k;
                    had[d] |= at.topics[k];
                }
            }
            for (int i = 0; i < court.persons && i < MOST_PERSONS; i++) {
                weigh(i, court.taste[i]);
            }
        }

        private boolean isLookedAt(int d) {
            return d >= 0 && d < days && d < MOST_DAYS;
        }

        private static boolean isPlace(int person) {
            return person >= 0 && person < MOST_PERSONS;
        }

        /** Works out what comes to a person, were this his taste. */
        void weigh(int person, int taste) {
            if (!isPlace(person)) {
                return;
            }
            for (int d = 0; d < days && d < MOST_DAYS; d++) {
                gain[d * MOST_PERSONS + person] = gainBy(shown[d], court.kind[person], taste, firstDay + d);
            }
        }

        /** What comes by the things told as bits, that are all of one day. */
        private int gainBy(int bits, int kind, int taste, int day) {
            int sum = 0;
            int before = 0;
            if (bits == 0 || things == null) {
                return sum;
            }
            for (int k = 0; k < things.size && k < MOST_THINGS; k++) {
                if ((bits >> k & 1) == 1) {
                    sum += comesBy(kind, taste, things.topics[k], things.strength[k], before, day);
                    before |= things.topics[k];
                }
            }
            return sum;
        }

        int gainOf(int d, int person) {
            return isLookedAt(d) && isPlace(person) ? gain[d * MOST_PERSONS + person] : 0;
        }

        /** What comes to a person on a day if these things (bits) are hidden, too. */
        int gainWithout(int d, int person, int hidden) {
            if (!isLookedAt(d) || !isPlace(person)) {
                return 0;
            }
            return gainBy(shown[d] & ~hidden, court.kind[person], court.taste[person], firstDay + d);
        }

        /** What one thing more, behind all others of the day, brings a person. */
        int gainOfOneMore(int d, int person, int topics, int strength) {
            if (!isLookedAt(d) || !isPlace(person)) {
                return 0;
            }
            return comesBy(court.kind[person], court.taste[person], topics, strength, had[d], firstDay + d);
        }

        /** One thing more happens on a day, behind all others; only one a day may be added at once. */
        void add(int d, int topics, int strength) {
            addTimes(1, d, topics, strength);
        }

        void takeAway(int d, int topics, int strength) {
            addTimes(-1, d, topics, strength);
        }

        private void addTimes(int times, int d, int topics, int strength) {
            if (!isLookedAt(d)) {
                return;
            }
            for (int i = 0; i < court.persons && i < MOST_PERSONS; i++) {
                gain[d * MOST_PERSONS + i] += times * gainOfOneMore(d, i, topics, strength);
            }
        }

        /** The things, as bits, that happen on any of the days. */
        int shownAtAll() {
            int bits = 0;
            for (int d = 0; d < days && d < MOST_DAYS; d++) {
                bits |= shown[d];
            }
            return bits;
        }
    }

    /** A run through the days of an outlook: who reigns, and how interested he is. */
    private static final class Reign {
        private final Court court;
        private final Outlook outlook;
        private final int[] line = new int[MOST_PERSONS];
        private int at;
        private int interest;

        Reign(Court court, Outlook outlook) {
            this.court = court;
            this.outlook = outlook;
        }

        void start(Moment moment) {
            lineUp();
            at = moment.king;
            interest = moment.interest;
        }

        void startFirst() {
            lineUp();
            at = 0;
            interest = 0;
        }

        /** Starts in the order in which they are lined up; only who reigns already brings interest along. */
        void startLine(Moment moment) {
            at = 0;
            interest = reigning() == moment.king ? moment.interest : 0;
        }

        int reigning() {
            return at >= 0 && at < MOST_PERSONS ? line[at] : 0;
        }

        /** The day's things come to the king's interest: whether the bell goes. */
        boolean ringsOn(int d) {
            int king = reigning();
            interest = court.faded(interest) + outlook.gainOf(d, king);
            return interest >= court.standsOf(king);
        }

        /** Going behind all others, in a gallery that only turns, is the next one's being first. */
        private void change() {
            at = at + 1 < court.persons ? at + 1 : 0;
            interest = 0;
        }

        /** A whole day, the change of kings too: whether the bell went. */
        boolean live(int d) {
            boolean rings = ringsOn(d);
            if (rings) {
                change();
            }
            return rings;
        }

        void lineUp() {
            for (int i = 0; i < MOST_PERSONS; i++) {
                line[i] = i;
            }
        }

        void copyLine(int[] into) {
            for (int i = 0; i < MOST_PERSONS && i < into.length; i++) {
                into[i] = line[i];
            }
        }

        /** The next order, the lowest first, in which the first so many do not all stand as now; false behind the last. */
        boolean lineUpNext(int fixed) {
            int last = Math.min(court.persons, MOST_PERSONS) - 1;
            sortDown(fixed, last);
            int from = last - 1;
            while (from >= 0 && line[from] > line[from + 1]) {
                from--;
            }
            if (from < 0) {
                return false;
            }
            int other = last;
            while (other > from && line[other] < line[from]) {
                other--;
            }
            swap(from, other);
            for (int low = from + 1, high = last; low < high; low++, high--) {
                swap(low, high);
            }
            return true;
        }

        /** The last order of those who stand there, so that the next one is none of theirs. */
        private void sortDown(int first, int last) {
            for (int i = Math.max(first, 0); i < last; i++) {
                for (int j = i + 1; j <= last; j++) {
                    if (line[j] > line[i]) {
                        swap(i, j);
                    }
                }
            }
        }

        private void swap(int a, int b) {
            int one = line[a];
            line[a] = line[b];
            line[b] = one;
        }
    }
}
