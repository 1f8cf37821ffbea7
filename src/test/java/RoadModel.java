import java.util.ArrayDeque;
import java.util.ArrayList;
import java.util.BitSet;
import java.util.Deque;
import java.util.HashSet;
import java.util.List;
import java.util.NoSuchElementException;
import java.util.Set;
import java.util.TreeMap;
import java.util.regex.Matcher;
import java.util.regex.Pattern;

/**
 * The document once more, in the most literal way and without a thought for speed: seconds are
 * stepped through one by one, phases are found by trying all ways. Random runs compare it with the
 * program.
 */
public final class RoadModel {
    private static final Pattern COMMAND = Pattern.compile(
            "(?:green:N,N,N,N,N|offset:N,N|press:N,N|run:N|change:N|road:N,N,N);"
                    .replace("N", "(?:0|[1-9][0-9]{0,3})"));
    private static final Set<String> WORDS = Set.of("green", "offset", "press", "run", "change", "road");

    private static final class Group {
        int kind;
        int least;
        boolean byRequest;
        int lit;
        int asked = -1;
        boolean given;
        TreeMap<Integer, Integer> heads = new TreeMap<>();

        Group copy() {
            Group g = new Group();
            g.kind = kind;
            g.least = least;
            g.byRequest = byRequest;
            g.lit = lit;
            g.asked = asked;
            g.given = given;
            g.heads = new TreeMap<>(heads);
            return g;
        }
    }

    private static final class Junction {
        int position;
        int offset;
        int present;
        int planned = -1;
        int there = -1;
        int back = -1;
        List<Group> groups = new ArrayList<>();
        /** From 10 * a + b to the clearance from a to b. */
        TreeMap<Integer, Integer> clearances = new TreeMap<>();
        /** For each plan from the group to its first second and length. */
        List<TreeMap<Integer, int[]>> plans = List.of(new TreeMap<>(), new TreeMap<>());

        Junction copy() {
            Junction j = new Junction();
            j.position = position;
            j.offset = offset;
            j.present = present;
            j.planned = planned;
            j.there = there;
            j.back = back;
            for (Group g : groups) {
                j.groups.add(g.copy());
            }
            j.clearances = new TreeMap<>(clearances);
            j.plans = List.of(new TreeMap<>(plans.get(0)), new TreeMap<>(plans.get(1)));
            return j;
        }
    }

    private static final class World {
        int cycle = 60;
        int speed = 14;
        int time;
        int served;
        int waited;
        List<Junction> junctions = new ArrayList<>();

        World copy() {
            World w = new World();
            w.cycle = cycle;
            w.speed = speed;
            w.time = time;
            w.served = served;
            w.waited = waited;
            for (Junction j : junctions) {
                w.junctions.add(j.copy());
            }
            return w;
        }
    }

    private World world = new World();
    private World saved;
    private final Deque<World> changes = new ArrayDeque<>();
    private boolean isInText;
    private String buffer = "";
    private String written = "";
    private int error = -1;
    private int reason;

    // ---- helpers

    private Junction at(int junction) {
        if (junction < 0 || junction >= world.junctions.size()) {
            throw new IndexOutOfBoundsException();
        }
        return world.junctions.get(junction);
    }

    private Group at(Junction j, int group) {
        if (group < 0 || group >= j.groups.size()) {
            throw new IndexOutOfBoundsException();
        }
        return j.groups.get(group);
    }

    private TreeMap<Integer, int[]> planAt(Junction j, int plan) {
        if (plan != 0 && plan != 1) {
            throw new IndexOutOfBoundsException();
        }
        return j.plans.get(plan);
    }

    private static void range(int value, int least, int most) {
        if (value < least || value > most) {
            throw new IllegalArgumentException();
        }
    }

    private static void allow(boolean isAllowed) {
        if (!isAllowed) {
            throw new IllegalStateException();
        }
    }

    private void refuse(int why) {
        if (why != 0) {
            reason = why;
            throw new UnsupportedOperationException();
        }
    }

    private void changing() {
        if (!isInText) {
            keep(world.copy());
        }
    }

    private void keep(World before) {
        changes.addLast(before);
        if (changes.size() > 8) {
            changes.removeFirst();
        }
    }

    private int local(Junction j, int time) {
        int second = (time - j.offset) % world.cycle;
        return second < 0 ? second + world.cycle : second;
    }

    private BitSet seconds(int[] green) {
        BitSet set = new BitSet();
        for (int k = 0; k < green[1]; k++) {
            set.set((green[0] + k) % world.cycle);
        }
        return set;
    }

    private boolean on(Junction j, int plan, int group, int second) {
        int[] green = j.plans.get(plan).get(group);
        return green != null && seconds(green).get(second);
    }

    private int gap(int[] from, int[] to) {
        int count = 0;
        int second = (from[0] + from[1]) % world.cycle;
        while (second != to[0]) {
            second = (second + 1) % world.cycle;
            count++;
        }
        return count;
    }

    private static int cleared(Junction j, int one, int other) {
        return j.clearances.getOrDefault(10 * one + other, -1);
    }

    /** The reason from 3 on; the greens are those of the plan, but for the group's own. */
    private int clash(Junction j, TreeMap<Integer, int[]> plan, int group, int[] green) {
        for (int why = 3; why <= 5; why++) {
            for (int other = 0; other < j.groups.size(); other++) {
                int[] its = plan.get(other);
                if (other == group || its == null || cleared(j, group, other) < 0) {
                    continue;
                }
                if (why == 3 && seconds(green).intersects(seconds(its))
                        || why == 4 && gap(its, green) < cleared(j, other, group)
                        || why == 5 && gap(green, its) < cleared(j, group, other)) {
                    return why;
                }
            }
        }
        return 0;
    }

    private int against(Junction j, int plan, int group, int first, int length) {
        if (length < j.groups.get(group).least) {
            return 1;
        }
        if (length > world.cycle - 5) {
            return 2;
        }
        return clash(j, j.plans.get(plan), group, new int[] {first, length});
    }

    // ---- the road

    public int cycle(int seconds) {
        range(seconds, 30, 120);
        for (Junction j : world.junctions) {
            allow(j.plans.get(0).isEmpty() && j.plans.get(1).isEmpty() && j.offset < seconds && j.planned < 0);
        }
        changing();
        int old = world.cycle;
        world.cycle = seconds;
        return old;
    }

    public int speed(int metres) {
        range(metres, 5, 25);
        changing();
        int old = world.speed;
        world.speed = metres;
        return old;
    }

    public int junction(int position) {
        range(position, 0, 9999);
        int count = world.junctions.size();
        if (count > 0 && position <= world.junctions.get(count - 1).position) {
            throw new IllegalArgumentException();
        }
        allow(count < 4);
        changing();
        Junction j = new Junction();
        j.position = position;
        world.junctions.add(j);
        return count;
    }

    public int offset(int junction, int seconds) {
        Junction j = at(junction);
        range(seconds, 0, world.cycle - 1);
        allow(j.planned < 0);
        changing();
        int old = j.offset;
        j.offset = seconds;
        return old;
    }

    public int road(int junction, int there, int back) {
        Junction j = at(junction);
        at(j, there);
        at(j, back);
        changing();
        int old = j.there < 0 ? -1 : 10 * j.there + j.back;
        j.there = there;
        j.back = back;
        return old;
    }

    public int told(int junction, int what) {
        Junction j = at(junction);
        range(what, 0, 7);
        switch (what) {
            case 0: return j.position;
            case 1: return j.offset;
            case 2: return j.groups.size();
            case 3: return local(j, world.time);
            case 4: return j.present;
            case 5: return j.planned;
            case 6: return j.clearances.size() / 2;
            default: return litIfPassed(junction);
        }
    }

    private int litIfPassed(int junction) {
        World real = world;
        world = real.copy();
        passSecond();
        int set = 0;
        for (int k = 0; k < real.junctions.get(junction).groups.size(); k++) {
            Group after = world.junctions.get(junction).groups.get(k);
            if (after.lit > real.junctions.get(junction).groups.get(k).lit) {
                set += 1 << k;
            }
        }
        world = real;
        return set;
    }

    // ---- groups and conflicts

    public int group(int junction, int kind, int least, boolean isByRequest) {
        Junction j = at(junction);
        range(kind, 0, 2);
        range(least, 4, 30);
        allow(j.groups.size() < 6);
        changing();
        Group g = new Group();
        g.kind = kind;
        g.least = least;
        g.byRequest = isByRequest;
        j.groups.add(g);
        return j.groups.size() - 1;
    }

    public int groupTold(int junction, int group, int what) {
        Junction j = at(junction);
        Group g = at(j, group);
        range(what, 0, 7);
        switch (what) {
            case 0: return g.kind;
            case 1: return g.least;
            case 2: return g.byRequest ? 1 : 0;
            case 3: {
                int set = 0;
                for (int key : j.clearances.keySet()) {
                    set += key / 10 == group ? 1 << key % 10 : 0;
                }
                return set;
            }
            case 4: return g.lit;
            case 5: return g.asked;
            case 6: return g.given ? 1 : 0;
            default: return g.heads.size();
        }
    }

    public int conflict(int junction, int one, int other, int there, int back) {
        Junction j = at(junction);
        at(j, one);
        at(j, other);
        if (one == other) {
            throw new IllegalArgumentException();
        }
        range(there, 0, 20);
        range(back, 0, 20);
        allow(j.planned < 0);
        Junction trial = j.copy();
        trial.clearances.put(10 * one + other, there);
        trial.clearances.put(10 * other + one, back);
        for (TreeMap<Integer, int[]> plan : trial.plans) {
            if (plan.containsKey(one)) {
                refuse(clash(trial, plan, one, plan.get(one)));
            }
        }
        changing();
        j.clearances.putAll(trial.clearances);
        return j.clearances.size() / 2;
    }

    public int peace(int junction, int one, int other) {
        Junction j = at(junction);
        at(j, one);
        at(j, other);
        int there = cleared(j, one, other);
        int back = cleared(j, other, one);
        if (there < 0) {
            throw new NoSuchElementException();
        }
        changing();
        j.clearances.remove(10 * one + other);
        j.clearances.remove(10 * other + one);
        return 100 * there + back;
    }

    public int clearance(int junction, int one, int other) {
        Junction j = at(junction);
        at(j, one);
        at(j, other);
        return cleared(j, one, other);
    }

    // ---- plans

    public int green(int junction, int plan, int group, int first, int length) {
        Junction j = at(junction);
        planAt(j, plan);
        at(j, group);
        range(first, 0, world.cycle - 1);
        range(length, 1, world.cycle);
        allow(j.planned < 0);
        refuse(against(j, plan, group, first, length));
        changing();
        j.plans.get(plan).put(group, new int[] {first, length});
        return j.plans.get(plan).size();
    }

    public int hinders(int junction, int plan, int group, int first, int length) {
        Junction j = at(junction);
        planAt(j, plan);
        at(j, group);
        range(first, 0, world.cycle - 1);
        range(length, 1, world.cycle);
        return against(j, plan, group, first, length);
    }

    public int dark(int junction, int plan, int group) {
        Junction j = at(junction);
        planAt(j, plan);
        at(j, group);
        allow(j.planned < 0);
        changing();
        int[] old = j.plans.get(plan).remove(group);
        return old == null ? 0 : old[1];
    }

    /** All ways are tried in lexicographic order; the first one with the fewest phases stays. */
    private int[] phases(Junction j) {
        int[][] best = new int[1][];
        tryPhases(j, new int[j.groups.size()], 0, best);
        return best[0];
    }

    private void tryPhases(Junction j, int[] way, int group, int[][] best) {
        if (group == way.length) {
            if (isNumberedFromNought(way) && (best[0] == null || count(way) < count(best[0]))) {
                best[0] = way.clone();
            }
            return;
        }
        for (int phase = 0; phase < way.length; phase++) {
            boolean isFine = true;
            for (int other = 0; other < group; other++) {
                isFine &= way[other] != phase || cleared(j, group, other) < 0;
            }
            if (isFine) {
                way[group] = phase;
                tryPhases(j, way, group + 1, best);
            }
        }
    }

    private static int count(int[] way) {
        Set<Integer> set = new HashSet<>();
        for (int phase : way) {
            set.add(phase);
        }
        return set.size();
    }

    private static boolean isNumberedFromNought(int[] way) {
        int most = -1;
        for (int phase : way) {
            most = Math.max(most, phase);
        }
        return most + 1 == count(way);
    }

    public int make(int junction, int plan) {
        Junction j = at(junction);
        planAt(j, plan);
        allow(!j.groups.isEmpty());
        allow(j.planned < 0);
        int[] way = phases(j);
        int count = count(way);
        int[] lengths = new int[count];
        int[] between = new int[count];
        int sum = 0;
        for (int phase = 0; phase < count; phase++) {
            for (int a = 0; a < way.length; a++) {
                if (way[a] == phase) {
                    lengths[phase] = Math.max(lengths[phase], j.groups.get(a).least);
                    for (int b = 0; b < way.length; b++) {
                        if (way[b] == (phase + 1) % count && cleared(j, a, b) >= 0) {
                            between[phase] = Math.max(between[phase], cleared(j, a, b));
                        }
                    }
                }
            }
            sum += lengths[phase] + between[phase];
        }
        refuse(sum > world.cycle ? 6 : 0);
        addLeft(lengths, world.cycle - sum);
        TreeMap<Integer, int[]> made = new TreeMap<>();
        int start = 0;
        for (int phase = 0; phase < count; phase++) {
            for (int a = 0; a < way.length; a++) {
                if (way[a] == phase) {
                    made.put(a, new int[] {start, lengths[phase]});
                }
            }
            start += lengths[phase] + between[phase];
        }
        for (int a = 0; a < way.length; a++) {
            refuse(clash(j, made, a, made.get(a)) >= 4 ? 7 : 0);
        }
        changing();
        j.plans.get(plan).clear();
        j.plans.get(plan).putAll(made);
        return count;
    }

    private void addLeft(int[] lengths, int seconds) {
        int left = seconds;
        boolean isAdded = true;
        while (left > 0 && isAdded) {
            isAdded = false;
            for (int phase = 0; phase < lengths.length && left > 0; phase++) {
                if (lengths[phase] + 1 <= world.cycle - 5) {
                    lengths[phase]++;
                    left--;
                    isAdded = true;
                }
            }
        }
    }

    public int phase(int junction, int group) {
        Junction j = at(junction);
        at(j, group);
        return phases(j)[group];
    }

    public int greenOf(int junction, int plan, int group, boolean isLength) {
        Junction j = at(junction);
        planAt(j, plan);
        at(j, group);
        int[] green = j.plans.get(plan).get(group);
        if (green == null) {
            throw new NoSuchElementException();
        }
        return green[isLength ? 1 : 0];
    }

    public int shows(int junction, int plan, int second) {
        Junction j = at(junction);
        planAt(j, plan);
        range(second, 0, world.cycle - 1);
        return onSet(j, plan, second);
    }

    private int onSet(Junction j, int plan, int second) {
        int set = 0;
        for (int k = 0; k < j.groups.size(); k++) {
            set += on(j, plan, k, second) ? 1 << k : 0;
        }
        return set;
    }

    public int picture(int junction, int plan, int index) {
        Junction j = at(junction);
        planAt(j, plan);
        List<Integer> sets = new ArrayList<>();
        for (int second = 0; second < world.cycle; second++) {
            Integer set = onSet(j, plan, second);
            if (!sets.contains(set)) {
                sets.add(set);
            }
        }
        if (index < -1 || index >= sets.size()) {
            throw new NoSuchElementException();
        }
        return index == -1 ? sets.size() : sets.get(index);
    }

    public int refusal() {
        if (reason == 0) {
            throw new NoSuchElementException();
        }
        return reason;
    }

    // ---- trips and bands

    private int roadGroup(Junction j, int direction) {
        return direction == 0 ? j.there : j.back;
    }

    private void needTrips(int direction) {
        boolean isPossible = !world.junctions.isEmpty();
        for (Junction j : world.junctions) {
            isPossible &= j.plans.get(j.present).containsKey(roadGroup(j, direction));
        }
        if (!isPossible) {
            throw new NoSuchElementException();
        }
    }

    /** Seconds, junctions with a wait, seconds of waiting. */
    private int[] travel(int direction, int time) {
        int now = time;
        int waits = 0;
        int waited = 0;
        int count = world.junctions.size();
        for (int k = 0; k < count; k++) {
            Junction j = world.junctions.get(direction == 0 ? k : count - 1 - k);
            if (k > 0) {
                Junction last = world.junctions.get(direction == 0 ? k - 1 : count - k);
                now += (int) Math.ceil(Math.abs(j.position - last.position) / (double) world.speed);
            }
            int before = waited;
            while (!on(j, j.present, roadGroup(j, direction), local(j, now))) {
                now++;
                waited++;
            }
            waits += waited > before ? 1 : 0;
        }
        return new int[] {now - time, waits, waited};
    }

    public int trip(int direction, int time, int what) {
        range(direction, 0, 1);
        range(time, 0, 99999);
        range(what, 0, 2);
        needTrips(direction);
        return travel(direction, time)[what];
    }

    public int tripAgain(int direction, int time) {
        return trip(direction, time, 0);
    }

    public int band(int direction) {
        range(direction, 0, 1);
        needTrips(direction);
        int count = 0;
        for (int time = 0; time < world.cycle; time++) {
            count += travel(direction, time)[1] == 0 ? 1 : 0;
        }
        return count;
    }

    public int bestOffset(int junction, int direction) {
        Junction j = at(junction);
        range(direction, 0, 1);
        needTrips(direction);
        int kept = j.offset;
        int best = 0;
        int greatest = -1;
        for (int offset = 0; offset < world.cycle; offset++) {
            j.offset = offset;
            int band = band(direction);
            if (band > greatest) {
                greatest = band;
                best = offset;
            }
        }
        j.offset = kept;
        return best;
    }

    public float share(int direction) {
        return (float) band(direction) / (float) world.cycle;
    }

    // ---- time, requests, changes of plans

    public int press(int junction, int group) {
        Junction j = at(junction);
        Group g = at(j, group);
        allow(g.byRequest);
        changing();
        if (g.asked < 0) {
            g.asked = world.time;
        }
        int count = 0;
        for (Group each : j.groups) {
            count += each.asked >= 0 ? 1 : 0;
        }
        return count;
    }

    private void passSecond() {
        for (Junction j : world.junctions) {
            if (j.planned == world.time) {
                j.present = 1 - j.present;
                j.planned = -1;
                for (Group g : j.groups) {
                    g.given = false;
                }
            }
        }
        for (Junction j : world.junctions) {
            int second = local(j, world.time);
            for (int k = 0; k < j.groups.size(); k++) {
                Group g = j.groups.get(k);
                if (!on(j, j.present, k, second)) {
                    continue;
                }
                if (g.byRequest && second == j.plans.get(j.present).get(k)[0]) {
                    g.given = g.asked >= 0;
                    if (g.given) {
                        world.served++;
                        world.waited += world.time - g.asked;
                        g.asked = -1;
                    }
                }
                g.lit += !g.byRequest || g.given ? 1 : 0;
            }
        }
        world.time++;
    }

    public int run(int seconds) {
        range(seconds, 1, 300);
        allow(world.time + seconds <= 99999);
        changing();
        int before = world.served;
        for (int k = 0; k < seconds; k++) {
            passSecond();
        }
        return world.served - before;
    }

    private boolean isClearAt(Junction j, int time) {
        for (int key : j.clearances.keySet()) {
            int a = key / 10;
            int b = key % 10;
            int other = 1 - j.present;
            if (!j.plans.get(j.present).containsKey(a) || !j.plans.get(other).containsKey(b)) {
                continue;
            }
            int last = time - 1;
            while (!on(j, j.present, a, local(j, last))) {
                last--;
            }
            int first = time;
            while (!on(j, other, b, local(j, first))) {
                first++;
            }
            if (first - last - 1 < j.clearances.get(key)) {
                return false;
            }
        }
        return true;
    }

    public int soonest(int junction) {
        Junction j = at(junction);
        for (int k = 0; k < world.cycle; k++) {
            if (isClearAt(j, world.time + k)) {
                return k;
            }
        }
        throw new NoSuchElementException();
    }

    public int change(int junction) {
        Junction j = at(junction);
        allow(j.planned < 0);
        int seconds = soonest(junction);
        changing();
        j.planned = world.time + seconds;
        return seconds;
    }

    public int mount(int junction, int group, int place, int head) {
        Junction j = at(junction);
        Group g = at(j, group);
        if (place < 0 || place > 2) {
            throw new IndexOutOfBoundsException();
        }
        range(head, 0, 3);
        boolean isFine = g.kind == 2 || g.kind == 0 && (head == 0 || head == 1) || g.kind == 1 && head == 2;
        refuse(isFine ? 0 : 8);
        changing();
        g.heads.put(place, head);
        return g.heads.size();
    }

    // ---- accounts

    public int account(int what) {
        range(what, 0, 14);
        int groups = 0;
        int conflicts = 0;
        int greens = 0;
        int lit = 0;
        int waiting = 0;
        int planned = 0;
        int heads = 0;
        for (Junction j : world.junctions) {
            groups += j.groups.size();
            conflicts += j.clearances.size() / 2;
            greens += j.plans.get(0).size() + j.plans.get(1).size();
            planned += j.planned >= 0 ? 1 : 0;
            for (Group g : j.groups) {
                lit += g.lit;
                waiting += g.asked >= 0 ? 1 : 0;
                heads += g.heads.size();
            }
        }
        int[] all = {world.junctions.size(), groups, conflicts, greens, world.time, lit, world.served, waiting,
            world.waited, planned, heads, world.cycle, world.speed, changes.size(), buffer.length()};
        return all[what];
    }

    public int litShare(int junction, int group) {
        Group g = at(at(junction), group);
        if (world.time == 0) {
            throw new ArithmeticException();
        }
        return Float.floatToIntBits((float) g.lit / (float) world.time);
    }

    public double meanWait() {
        if (world.served == 0) {
            throw new ArithmeticException();
        }
        return (double) world.waited / (double) world.served;
    }

    // ---- texts

    public int append(int packed) {
        StringBuilder more = new StringBuilder();
        for (byte b : java.nio.ByteBuffer.allocate(4).putInt(packed).array()) {
            if (b != 0) {
                range(b, 33, 126);
                more.append((char) b);
            }
        }
        allow(buffer.length() + more.length() <= 60);
        buffer += more;
        return buffer.length();
    }

    /** The error position of a text; the starts of the commands are put into a list. */
    private static int errorOf(String text, List<Integer> starts) {
        Matcher matcher = COMMAND.matcher(text);
        int from = 0;
        while (from == 0 || from < text.length()) {
            if (!matcher.region(from, text.length()).lookingAt()) {
                return from + errorInCommand(text.substring(from));
            }
            starts.add(from);
            from = matcher.end();
        }
        return -1;
    }

    private static int errorInCommand(String text) {
        String word = text.replaceFirst("(?s)[^a-z].*", "");
        if (!word.isEmpty() && !WORDS.contains(word)) {
            return 0;
        }
        for (int length = 1; length <= text.length(); length++) {
            Matcher matcher = COMMAND.matcher(text.substring(0, length));
            if (!matcher.matches() && !matcher.hitEnd()) {
                return length - 1;
            }
        }
        return text.length();
    }

    public int text() {
        String text = buffer;
        buffer = "";
        List<Integer> starts = new ArrayList<>();
        error = errorOf(text, starts);
        if (error >= 0) {
            throw new IllegalArgumentException();
        }
        World before = world.copy();
        isInText = true;
        for (int start : starts) {
            try {
                carryOut(text.substring(start, text.indexOf(';', start)));
            } catch (RuntimeException e) {
                error = start;
                world = before;
                isInText = false;
                throw new IllegalStateException();
            }
        }
        isInText = false;
        keep(before);
        return starts.size();
    }

    private void carryOut(String command) {
        String[] parts = command.split("[:,]");
        int[] n = new int[parts.length];
        for (int k = 1; k < n.length; k++) {
            n[k] = Integer.parseInt(parts[k]);
        }
        switch (parts[0]) {
            case "green": green(n[1], n[2], n[3], n[4], n[5]); break;
            case "offset": offset(n[1], n[2]); break;
            case "press": press(n[1], n[2]); break;
            case "run": run(n[1]); break;
            case "change": change(n[1]); break;
            default: road(n[1], n[2], n[3]); break;
        }
    }

    public int errorPosition() {
        return error;
    }

    public int report(int junction) {
        Junction j = at(junction);
        int second = local(j, world.time);
        StringBuilder on = new StringBuilder();
        StringBuilder off = new StringBuilder();
        for (int k = 0; k < j.groups.size(); k++) {
            (on(j, j.present, k, second) ? on : off).append(' ').append(k);
        }
        written = "junction " + junction + " at " + j.position + ": plan " + j.present + ", second " + second + ", "
                + (on.length() == 0 ? "none on" : "on" + on) + ", " + (off.length() == 0 ? "none off" : "off" + off);
        return written.length();
    }

    public char character(int index) {
        if (index < 0 || index >= written.length()) {
            throw new IndexOutOfBoundsException();
        }
        return written.charAt(index);
    }

    // ---- undo and saving

    public int undo() {
        allow(!changes.isEmpty());
        world = changes.removeLast();
        return changes.size();
    }

    public int save() {
        saved = world.copy();
        return world.junctions.size();
    }

    public int restore() {
        allow(saved != null);
        world = saved.copy();
        changes.clear();
        return world.junctions.size();
    }
}
