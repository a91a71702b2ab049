import java.math.BigInteger;
import java.util.ArrayList;
import java.util.Collections;
import java.util.LinkedList;
import java.util.List;

/** The document told again in the plainest way, slow and with all of Java's library, for ModelTest to hold the class to. */
final class PlainCourt {
    private static final int BAD = -1, NO = -2, FULL = -3, NONE = -4;

    private record Person(int kind, int taste, int stands) { }

    private record Thing(int day, int topics, int strength, boolean hidden) { }

    private record Told(int fault, List<Person> persons, List<Thing> things, int fade) { }

    /** A gallery whose first one reigns; days go by on it. */
    private static final class World {
        List<Person> persons;
        int fade;
        int day;
        List<Integer> gallery = new ArrayList<>();
        int interest;
        List<Thing> things = new ArrayList<>();
        int[] reigned = new int[6];

        World copy() {
            World other = new World();
            other.persons = new ArrayList<>(persons);
            other.fade = fade;
            other.day = day;
            other.gallery = new ArrayList<>(gallery);
            other.interest = interest;
            other.things = new ArrayList<>(things);
            other.reigned = reigned.clone();
            return other;
        }

        int king() {
            return gallery.get(0);
        }

        int comes(Person person) {
            int sum = 0;
            List<Thing> ahead = new ArrayList<>();
            for (Thing thing : things) {
                if (thing.day != day || thing.hidden) {
                    continue;
                }
                int that = 0;
                boolean isNew = false;
                for (int topic = 0; topic < 5; topic++) {
                    if ((thing.topics >> topic) % 2 == 1) {
                        if ((person.taste >> topic) % 2 == 1) {
                            that += thing.strength;
                        }
                        boolean had = false;
                        for (Thing other : ahead) {
                            had |= (other.topics >> topic) % 2 == 1;
                        }
                        isNew |= !had;
                    }
                }
                if (person.kind == 1) {
                    that = that / 2;
                } else if (person.kind == 2 && isNew) {
                    that += 2;
                } else if (person.kind == 3 && day % 3 == 2) {
                    that = 0;
                }
                sum += that;
                ahead.add(thing);
            }
            return sum;
        }

        int interestToday() {
            return interest / fade + comes(persons.get(king()));
        }

        boolean goesBy() {
            interest = interestToday();
            reigned[king()]++;
            day++;
            if (interest < persons.get(gallery.get(0)).stands) {
                return false;
            }
            gallery.add(gallery.remove(0));
            interest = 0;
            return true;
        }

        int bell() {
            World run = copy();
            for (int d = 0; d <= 40; d++) {
                if (run.goesBy()) {
                    return d;
                }
            }
            return 41;
        }

        void hide(int k, boolean hidden) {
            Thing was = things.get(k);
            things.set(k, new Thing(was.day, was.topics, was.strength, hidden));
        }
    }

    private final StringBuilder text = new StringBuilder();
    private Told laid;
    private World now;
    private final LinkedList<World> acts = new LinkedList<>();
    private final LinkedList<World> kept = new LinkedList<>();
    private final List<int[]> sightings = new ArrayList<>();

    PlainCourt() {
        settle(tell("p0,3,6;p1,5,5;p2,12,9;p3,6,4;t0,1,3;t1,2,4;t2,7,2;t2,8,5;t4,4,6;t5,16,9;t7,3,3;f2;"));
    }

    private void settle(Told told) {
        laid = told;
        now = first(told.persons);
        acts.clear();
        kept.clear();
        sightings.clear();
    }

    private World first(List<Person> persons) {
        World world = new World();
        world.persons = new ArrayList<>(persons);
        world.fade = laid.fade;
        world.things = new ArrayList<>(laid.things);
        for (int i = 0; i < persons.size(); i++) {
            world.gallery.add(i);
        }
        return world;
    }

    private static Told tell(String text) {
        List<Person> persons = new ArrayList<>();
        List<Thing> things = new ArrayList<>();
        int fade = 2;
        int at = 0;
        while (at < text.length()) {
            int end = text.indexOf(';', at);
            String item = end < 0 ? "" : text.substring(at, end + 1);
            String number = "([0-9][0-9]?)";
            boolean so = false;
            if (item.matches("[pt]" + number + "," + number + "," + number + ";")) {
                String[] parts = item.substring(1, item.length() - 1).split(",");
                int a = Integer.parseInt(parts[0]);
                int b = Integer.parseInt(parts[1]);
                int c = Integer.parseInt(parts[2]);
                if (item.charAt(0) == 'p' && persons.size() < 6 && a <= 3 && b <= 31 && 1 <= c && c <= 60) {
                    so = persons.add(new Person(a, b, c));
                }
                if (item.charAt(0) == 't' && things.size() < 9 && a <= 60 && 1 <= b && b <= 31 && 1 <= c && c <= 9) {
                    so = things.add(new Thing(a, b, c, false));
                }
            } else if (item.matches("f" + number + ";")) {
                int f = Integer.parseInt(item.substring(1, item.length() - 1));
                if (1 <= f && f <= 9) {
                    fade = f;
                    so = true;
                }
            }
            if (!so) {
                return new Told(at, persons, things, fade);
            }
            at = end + 1;
        }
        return new Told(NONE, persons, things, fade);
    }

    private static boolean in(int number, int least, int most) {
        return least <= number && number <= most;
    }

    private boolean isPerson(int i) {
        return in(i, 0, laid.persons.size() - 1);
    }

    private boolean isThing(int k) {
        return in(k, 0, now.things.size() - 1);
    }

    int write(int letter) {
        if (!in(letter, 32, 126)) {
            return BAD;
        }
        if (text.length() == 200) {
            return FULL;
        }
        return text.append((char) letter).length();
    }

    int wipe() {
        int was = text.length();
        text.setLength(0);
        return was;
    }

    int fault() {
        return tell(text.toString()).fault;
    }

    int lay() {
        Told told = tell(text.toString());
        if (told.fault != NONE || told.persons.isEmpty()) {
            return NO;
        }
        settle(told);
        return told.persons.size();
    }

    int person(int i, int what) {
        if (!isPerson(i) || !in(what, 0, 4)) {
            return BAD;
        }
        Person person = laid.persons.get(i);
        int[] all = {person.kind, person.taste, person.stands, now.gallery.indexOf(i), now.reigned[i]};
        return all[what];
    }

    int thing(int k, int what) {
        if (!isThing(k) || !in(what, 0, 3)) {
            return BAD;
        }
        Thing thing = now.things.get(k);
        int[] all = {thing.day, thing.topics, thing.strength, thing.hidden ? 1 : 0};
        return all[what];
    }

    private void act() {
        acts.add(now.copy());
        if (acts.size() > 8) {
            acts.removeFirst();
        }
    }

    int pass(int n) {
        if (!in(n, 1, 20)) {
            return BAD;
        }
        if (now.day + n > 999) {
            return NO;
        }
        act();
        int bells = 0;
        for (int d = 0; d < n; d++) {
            bells += now.goesBy() ? 1 : 0;
        }
        return bells;
    }

    int hide(int k) {
        if (!isThing(k)) {
            return BAD;
        }
        act();
        now.hide(k, !now.things.get(k).hidden);
        return now.things.get(k).hidden ? 1 : 0;
    }

    int arrange(int day, int topics, int s) {
        if (!in(day, 0, 999) || !in(topics, 1, 31) || !in(s, 1, 9)) {
            return BAD;
        }
        if (day < now.day) {
            return NO;
        }
        if (now.things.size() == 9) {
            return FULL;
        }
        act();
        now.things.add(new Thing(day, topics, s, false));
        return now.things.size() - 1;
    }

    int undo() {
        if (acts.isEmpty()) {
            return NO;
        }
        now = acts.removeLast();
        return acts.size();
    }

    int king(int d, int what) {
        if (!in(d, 0, 40) || !in(what, 0, 1)) {
            return BAD;
        }
        World run = now.copy();
        for (int e = 0; e < d; e++) {
            run.goesBy();
        }
        return what == 0 ? run.king() : run.interestToday();
    }

    int bell() {
        int bell = now.bell();
        return bell == 41 ? NONE : bell;
    }

    int hides(int n) {
        if (!in(n, 1, 40)) {
            return BAD;
        }
        for (int size = 0; size <= now.things.size(); size++) {
            for (int set = 0; set < 1 << now.things.size(); set++) {
                if (Integer.bitCount(set) == size && keepsBy(set, n)) {
                    return set;
                }
            }
        }
        return NONE;
    }

    private boolean keepsBy(int set, int n) {
        World run = now.copy();
        for (int k = 0; k < run.things.size(); k++) {
            if ((set >> k) % 2 == 1) {
                if (run.things.get(k).hidden) {
                    return false;
                }
                run.hide(k, true);
            }
        }
        for (int d = 0; d < n; d++) {
            if (run.goesBy()) {
                return false;
            }
        }
        return true;
    }

    private static int firstReign(World world, int i) {
        World run = world.copy();
        for (int d = 0; d <= 40; d++) {
            if (run.king() == i) {
                return d;
            }
            run.goesBy();
        }
        return 41;
    }

    int raise(int i, int what) {
        if (!isPerson(i) || !in(what, 0, 1)) {
            return BAD;
        }
        int best = 41;
        int code = NONE;
        for (int d = 19; d >= 0; d--) {
            for (int topic = 4; topic >= 0; topic--) {
                World run = now.copy();
                run.things.add(new Thing(now.day + d, 1 << topic, 9, false));
                int first = firstReign(run, i);
                if (first <= best) {
                    best = first;
                    code = 10 * d + topic;
                }
            }
        }
        int without = firstReign(now, i);
        if (without <= best) {
            best = without;
            code = 1000;
        }
        if (best == 41) {
            return NONE;
        }
        return what == 0 ? code : best;
    }

    private void ordersOf(List<Integer> ahead, List<List<Integer>> all) {
        if (ahead.size() == laid.persons.size()) {
            all.add(new ArrayList<>(ahead));
        }
        for (int i = 0; i < laid.persons.size(); i++) {
            if (!ahead.contains(i)) {
                ahead.add(i);
                ordersOf(ahead, all);
                ahead.remove(ahead.size() - 1);
            }
        }
    }

    int order(int n, int k) {
        if (!in(n, 1, 40) || !in(k, -1, laid.persons.size() - 1)) {
            return BAD;
        }
        List<List<Integer>> all = new ArrayList<>();
        ordersOf(new ArrayList<>(), all);
        List<Integer> best = Collections.emptyList();
        int least = 1000;
        for (List<Integer> order : all) {
            World run = now.copy();
            run.gallery = new ArrayList<>(order);
            if (order.get(0) != now.king()) {
                run.interest = 0;
            }
            int bells = 0;
            for (int d = 0; d < n; d++) {
                bells += run.goesBy() ? 1 : 0;
            }
            if (bells < least) {
                least = bells;
                best = order;
            }
        }
        return k == -1 ? least : best.get(k);
    }

    int away(int what) {
        if (!in(what, 0, 1)) {
            return BAD;
        }
        int latest = NONE;
        int best = NONE;
        for (int k = now.things.size() - 1; k >= 0; k--) {
            if (!now.things.get(k).hidden) {
                World run = now.copy();
                run.hide(k, true);
                if (run.bell() >= latest) {
                    latest = run.bell();
                    best = k;
                }
            }
        }
        return what == 0 ? best : latest;
    }

    int seen(int i, int day) {
        if (!isPerson(i) || !in(day, 0, 60)) {
            return BAD;
        }
        if (sightings.size() == 8) {
            return FULL;
        }
        sightings.add(new int[] {i, day});
        return sightings.size();
    }

    int forget() {
        int were = sightings.size();
        sightings.clear();
        return were;
    }

    int tastes(int i, int what) {
        if (!isPerson(i) || !in(what, 0, 1)) {
            return BAD;
        }
        List<Integer> fitting = new ArrayList<>();
        for (int taste = 0; taste < 32; taste++) {
            List<Person> persons = new ArrayList<>(laid.persons);
            persons.set(i, new Person(persons.get(i).kind, taste, persons.get(i).stands));
            World run = first(persons);
            int[] kings = new int[61];
            for (int d = 0; d < 61; d++) {
                kings[d] = run.king();
                run.goesBy();
            }
            if (sightings.stream().allMatch(s -> kings[s[1]] == s[0])) {
                fitting.add(taste);
            }
        }
        if (what == 0) {
            return fitting.size();
        }
        return fitting.isEmpty() ? NONE : fitting.get(0);
    }

    /** How many of ten to the n chances keep the bell from going. */
    private static long good(World world, int n, Thing more, int x) {
        if (n == 0) {
            return 1;
        }
        World without = world.copy();
        World with = world.copy();
        with.things.add(new Thing(world.day, more.topics, more.strength, false));
        long sum = 0;
        if (!without.goesBy()) {
            sum += (10 - x) * good(without, n - 1, more, x);
        }
        if (!with.goesBy()) {
            sum += x * good(with, n - 1, more, x);
        }
        return sum;
    }

    int lasts(int n, int topics, int s, int x, int part) {
        if (!in(n, 0, 6) || !in(topics, 1, 31) || !in(s, 1, 9) || !in(x, 0, 10) || !in(part, 0, 1)) {
            return BAD;
        }
        BigInteger above = BigInteger.valueOf(good(now, n, new Thing(0, topics, s, false), x));
        BigInteger below = BigInteger.TEN.pow(n);
        return (part == 0 ? above : below).divide(above.gcd(below)).intValueExact();
    }

    int content(int d) {
        if (!in(d, 0, 40)) {
            return BAD;
        }
        World run = now.copy();
        run.day += d;
        int bits = 0;
        for (int i = 0; i < laid.persons.size(); i++) {
            bits += run.comes(laid.persons.get(i)) >= laid.persons.get(i).stands ? 1 << i : 0;
        }
        return bits;
    }

    int dull(int what) {
        if (!in(what, 0, 1)) {
            return BAD;
        }
        World run = now.copy();
        StringBuilder days = new StringBuilder();
        for (int d = 0; d < 40; d++) {
            days.append(run.goesBy() ? 'b' : '.');
        }
        int longest = 0;
        while (longest < 40 && days.indexOf(".".repeat(longest + 1)) >= 0) {
            longest++;
        }
        if (what == 0) {
            return longest;
        }
        return longest == 0 ? NONE : days.indexOf(".".repeat(longest));
    }

    int year(int z, int n, int what) {
        if (!in(z, 0, 9999) || !in(n, 1, 60) || !in(what, 0, 1)) {
            return BAD;
        }
        World run = now.copy();
        int bells = 0;
        for (int k = 0; k < n; k++) {
            BigInteger x = BigInteger.valueOf(7919).multiply(BigInteger.valueOf(z)).add(BigInteger.valueOf(6151L * k + 1));
            int draw = x.multiply(x).mod(BigInteger.valueOf(65521)).intValueExact() / 2;
            if (draw % 3 == 0) {
                run.things.add(new Thing(run.day, 1 << ((draw / 4) % 5), (draw / 32) % 9 + 1, false));
            }
            bells += run.goesBy() ? 1 : 0;
        }
        return what == 0 ? bells : run.king();
    }

    int keep() {
        if (kept.size() == 2) {
            return FULL;
        }
        kept.add(now.copy());
        return kept.size();
    }

    int back() {
        if (kept.isEmpty()) {
            return NO;
        }
        now = kept.removeLast();
        acts.clear();
        return kept.size();
    }

    int count(int what) {
        int hidden = (int) now.things.stream().filter(Thing::hidden).count();
        int[] all = {laid.persons.size(), now.things.size(), now.day, hidden, sightings.size(), acts.size(), kept.size(),
            text.length(), laid.fade};
        return in(what, 0, 8) ? all[what] : BAD;
    }
}
