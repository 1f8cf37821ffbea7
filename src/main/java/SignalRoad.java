import java.util.Arrays;
import java.util.NoSuchElementException;

/**
 * A road with signals: junctions with groups of lights, conflicts with clearances, two plans of
 * greens for each junction, trips and bands, requests, changes of plans, heads, commands as texts,
 * accounts, reports, undo and saving. The numbered promises of the document say what each call does.
 */
public final class SignalRoad {
    /** Stands where there is no time, group, head, clearance or position. */
    private static final int NONE = -1;

    private static final int MOST_JUNCTIONS = 4;
    private static final int MOST_GROUPS = 6;
    private static final int PLANS = 2;
    private static final int DIRECTIONS = 2;
    private static final int PLACES = 3;

    private static final int LEAST_CYCLE = 30;
    private static final int MOST_CYCLE = 120;
    private static final int LEAST_SPEED = 5;
    private static final int MOST_SPEED = 25;
    private static final int MOST_POSITION = 9999;
    private static final int MOST_TIME = 99999;
    private static final int MOST_SECONDS = 300;
    private static final int LEAST_GREEN = 4;
    private static final int MOST_LEAST_GREEN = 30;
    private static final int MOST_CLEARANCE = 20;
    /** The seconds of a cycle that a green must leave. */
    private static final int SPARE_SECONDS = 5;

    private static final int FOR_CARS = 0;
    private static final int FOR_WALKERS = 1;
    private static final int FOR_ALL = 2;
    private static final int ARROW_HEAD = 1;
    private static final int WALKER_HEAD = 2;
    private static final int BUS_HEAD = 3;

    private static final int MOST_CHANGES = 8;
    private static final int MOST_SIGNS = 60;
    /** The shortest command, such as run:1; has six characters. */
    private static final int MOST_COMMANDS = MOST_SIGNS / 6;
    private static final int MOST_NUMBERS = 5;
    private static final int MOST_DIGITS = 4;
    private static final int MOST_REPORT = 96;
    /** Far above the seconds of any trip: 2003 on the way and 4 waits of less than a cycle. */
    private static final int LONGEST_TRIP = 10000;

    private static final int NO_REASON = 0;
    private static final int TOO_SHORT = 1;
    private static final int TOO_LONG = 2;
    private static final int ON_TOGETHER = 3;
    private static final int TOO_SOON_AFTER = 4;
    private static final int TOO_SOON_BEFORE = 5;
    private static final int OVER_CYCLE = 6;
    private static final int PHASES_CLASH = 7;
    private static final int WRONG_HEAD = 8;

    /* A command of a text must be tried without an exception, so faults are numbers first. */
    private static final int NO_FAULT = 0;
    private static final int NO_SUCH_PART = 1;
    private static final int OUT_OF_RANGE = 2;
    private static final int NOT_NOW = 3;
    private static final int REFUSED = 4;
    private static final int NOT_THERE = 5;

    /* Numbers of accounts that are used elsewhere, too. */
    private static final int SERVED_REQUESTS = 6;
    private static final int WAITED_SECONDS = 8;

    /* A float's bits: 23 for the fraction, above them the exponent plus 127. */
    private static final int FRACTION_BITS = 23;
    private static final int EXPONENT_OF_ONE = 127;

    private final State state = new State();
    private final State before = new State();
    private final State saved = new State();
    private final History history = new History();
    private final Phases phases = new Phases();
    private final Trips trips = new Trips();
    private final Script script = new Script();
    private final Report page = new Report();
    private boolean isSaved;
    private int lastReason = NO_REASON;
    private int lastError = NONE;

    /** Creates a road without junctions. */
    public SignalRoad() {
    }

    // ---- the road

    /** Sets the cycle and returns the previous one. */
    public int cycle(int seconds) throws IllegalArgumentException, IllegalStateException {
        need(isWithin(seconds, LEAST_CYCLE, MOST_CYCLE), OUT_OF_RANGE);
        need(state.canTakeCycle(seconds), NOT_NOW);
        history.push(state);
        int previous = state.cycle;
        state.cycle = seconds;
        return previous;
    }

    /** Sets the speed and returns the previous one. */
    public int speed(int metres) throws IllegalArgumentException {
        need(isWithin(metres, LEAST_SPEED, MOST_SPEED), OUT_OF_RANGE);
        history.push(state);
        int previous = state.speed;
        state.speed = metres;
        return previous;
    }

    /** Makes a junction and returns its number. */
    public int junction(int position) throws IllegalArgumentException, IllegalStateException {
        need(isWithin(position, state.lastPosition() + 1, MOST_POSITION), OUT_OF_RANGE);
        need(state.junctionCount < MOST_JUNCTIONS, NOT_NOW);
        history.push(state);
        return state.addJunction(position);
    }

    /** Sets the offset of a junction and returns the previous one. */
    public int offset(int junction, int seconds)
            throws IndexOutOfBoundsException, IllegalArgumentException, IllegalStateException {
        raise(offsetFault(junction, seconds));
        history.push(state);
        return setOffset(junction, seconds);
    }

    /** Sets the groups of the road at a junction and returns the previous ones as 10 * there + back. */
    public int road(int junction, int there, int back) throws IndexOutOfBoundsException {
        raise(roadFault(junction, there, back));
        history.push(state);
        return setRoadGroups(junction, there, back);
    }

    /** Returns a number of a junction. */
    public int told(int junction, int what) throws IndexOutOfBoundsException, IllegalArgumentException {
        Junction here = found(junction);
        switch (what) {
            case 0: return here.position;
            case 1: return here.offset;
            case 2: return here.groupCount;
            case 3: return here.localSecond(state.time, state.cycle);
            case 4: return here.presentPlan;
            case 5: return here.plannedTime;
            case 6: return here.conflictCount();
            case 7: return here.litSet(state.time, state.cycle);
            default: throw new IllegalArgumentException("what is not 0 to 7");
        }
    }

    // ---- groups and conflicts

    /** Adds a group to a junction and returns its number. */
    public int group(int junction, int kind, int least, boolean isByRequest)
            throws IndexOutOfBoundsException, IllegalArgumentException, IllegalStateException {
        Junction here = found(junction);
        need(isWithin(kind, FOR_CARS, FOR_ALL) && isWithin(least, LEAST_GREEN, MOST_LEAST_GREEN), OUT_OF_RANGE);
        need(here.groupCount < MOST_GROUPS, NOT_NOW);
        history.push(state);
        return here.addGroup(kind, least, isByRequest);
    }

    /** Returns a number of a group. */
    public int groupTold(int junction, int group, int what)
            throws IndexOutOfBoundsException, IllegalArgumentException {
        Junction here = foundWith(junction, group);
        switch (what) {
            case 0: return here.kinds[group];
            case 1: return here.leasts[group];
            case 2: return here.isByRequest(group) ? 1 : 0;
            case 3: return here.conflictSet(group);
            case 4: return here.litSeconds[group];
            case 5: return here.requestTimes[group];
            case 6: return here.isGiven(group) ? 1 : 0;
            case 7: return here.headCount(group);
            default: throw new IllegalArgumentException("what is not 0 to 7");
        }
    }

    /** Puts two groups in conflict and returns the number of conflicts of the junction. */
    public int conflict(int junction, int one, int other, int there, int back)
            throws IndexOutOfBoundsException, IllegalArgumentException, IllegalStateException,
            UnsupportedOperationException {
        Junction here = foundWith(junction, one);
        need(here.hasGroup(other), NO_SUCH_PART);
        need(one != other && isClearance(there) && isClearance(back), OUT_OF_RANGE);
        need(!here.isChangePlanned(), NOT_NOW);
        raise(faultOfReason(here.reasonAgainstConflict(one, other, there, back, state.cycle)));
        history.push(state);
        here.setClearances(one, other, there, back);
        return here.conflictCount();
    }

    /** Ends a conflict and returns its clearances as 100 * there + back. */
    public int peace(int junction, int one, int other) throws IndexOutOfBoundsException, NoSuchElementException {
        Junction here = foundWith(junction, one);
        need(here.hasGroup(other), NO_SUCH_PART);
        need(here.areInConflict(one, other), NOT_THERE);
        history.push(state);
        int previous = 100 * here.clearanceFrom(one, other) + here.clearanceFrom(other, one);
        here.setClearances(one, other, NONE, NONE);
        return previous;
    }

    /** Returns the clearance from a group to another one, -1 if they are not in conflict. */
    public int clearance(int junction, int one, int other) throws IndexOutOfBoundsException {
        Junction here = foundWith(junction, one);
        need(here.hasGroup(other), NO_SUCH_PART);
        return here.clearanceFrom(one, other);
    }

    // ---- plans

    /** Gives a group a green in a plan and returns the number of greens of the plan. */
    public int green(int junction, int plan, int group, int first, int length)
            throws IndexOutOfBoundsException, IllegalArgumentException, IllegalStateException,
            UnsupportedOperationException {
        raise(greenFault(junction, plan, group, first, length));
        history.push(state);
        return giveGreen(junction, plan, group, first, length);
    }

    /** Returns the reason for which a green would be refused, 0 if it would not be. */
    public int hinders(int junction, int plan, int group, int first, int length)
            throws IndexOutOfBoundsException, IllegalArgumentException {
        Junction here = foundWith(junction, group);
        need(isPlan(plan), NO_SUCH_PART);
        need(isGreen(first, length), OUT_OF_RANGE);
        return here.reasonAgainstGreen(plan, group, first, length, state.cycle);
    }

    /** Takes the green of a group out of a plan and returns the length that it had. */
    public int dark(int junction, int plan, int group) throws IndexOutOfBoundsException, IllegalStateException {
        Junction here = foundWith(junction, group);
        need(isPlan(plan), NO_SUCH_PART);
        need(!here.isChangePlanned(), NOT_NOW);
        history.push(state);
        int previous = here.lengthOf(plan, group);
        here.setGreen(plan, group, 0, 0);
        return previous;
    }

    /** Makes a plan for all groups of a junction and returns the number of phases. */
    public int make(int junction, int plan)
            throws IndexOutOfBoundsException, IllegalStateException, UnsupportedOperationException {
        Junction here = found(junction);
        need(isPlan(plan), NO_SUCH_PART);
        need(here.groupCount > 0 && !here.isChangePlanned(), NOT_NOW);
        raise(faultOfReason(phases.layOut(here, state.cycle)));
        history.push(state);
        phases.giveGreens(here, plan);
        return phases.count;
    }

    /** Returns the phase of a group as make would put it. */
    public int phase(int junction, int group) throws IndexOutOfBoundsException {
        Junction here = foundWith(junction, group);
        phases.divide(here);
        return phases.phaseOf[group];
    }

    /** Returns the length or the first second of a green. */
    public int greenOf(int junction, int plan, int group, boolean isLength)
            throws IndexOutOfBoundsException, NoSuchElementException {
        Junction here = foundWith(junction, group);
        need(isPlan(plan), NO_SUCH_PART);
        need(here.hasGreen(plan, group), NOT_THERE);
        return isLength ? here.lengthOf(plan, group) : here.firstOf(plan, group);
    }

    /** Returns the set of groups that are on by a plan at a local second. */
    public int shows(int junction, int plan, int second)
            throws IndexOutOfBoundsException, IllegalArgumentException {
        Junction here = found(junction);
        need(isPlan(plan), NO_SUCH_PART);
        need(isWithin(second, 0, state.cycle - 1), OUT_OF_RANGE);
        return here.onSet(plan, second, state.cycle);
    }

    /** Returns a set of groups that are on together by a plan, or for -1 the number of different sets. */
    public int picture(int junction, int plan, int index)
            throws IndexOutOfBoundsException, NoSuchElementException {
        Junction here = found(junction);
        need(isPlan(plan), NO_SUCH_PART);
        int answer = here.pictureAt(plan, index, state.cycle);
        need(answer != NONE, NOT_THERE);
        return answer;
    }

    /** Returns the reason of the latest refusal. */
    public int refusal() throws NoSuchElementException {
        need(lastReason != NO_REASON, NOT_THERE);
        return lastReason;
    }

    // ---- trips and bands

    /** Returns the seconds of a trip, the junctions at which it waits, or the seconds for which it waits. */
    public int trip(int direction, int time, int what) throws IllegalArgumentException, NoSuchElementException {
        need(isDirection(direction) && isWithin(time, 0, MOST_TIME) && isWithin(what, 0, 2), OUT_OF_RANGE);
        need(trips.arePossible(state, direction), NOT_THERE);
        return trips.numberOf(state, direction, time, what);
    }

    /** Returns the seconds of a trip, found second by second. */
    public int tripAgain(int direction, int time) throws IllegalArgumentException, NoSuchElementException {
        need(isDirection(direction) && isWithin(time, 0, MOST_TIME), OUT_OF_RANGE);
        need(trips.arePossible(state, direction), NOT_THERE);
        return trips.secondsStepByStep(state, direction, time);
    }

    /** Returns at how many times of a cycle a trip begins that never waits. */
    public int band(int direction) throws IllegalArgumentException, NoSuchElementException {
        need(isDirection(direction), OUT_OF_RANGE);
        need(trips.arePossible(state, direction), NOT_THERE);
        return trips.bandOf(state, direction);
    }

    /** Returns the least offset of a junction with which the band of a direction is the greatest. */
    public int bestOffset(int junction, int direction)
            throws IndexOutOfBoundsException, IllegalArgumentException, NoSuchElementException {
        need(state.find(junction) != null, NO_SUCH_PART);
        need(isDirection(direction), OUT_OF_RANGE);
        need(trips.arePossible(state, direction), NOT_THERE);
        return trips.bestOffsetFor(state, junction, direction);
    }

    /** Returns the band of a direction divided by the cycle. */
    public float share(int direction) throws IllegalArgumentException, NoSuchElementException {
        need(isDirection(direction), OUT_OF_RANGE);
        need(trips.arePossible(state, direction), NOT_THERE);
        return (float) trips.bandOf(state, direction) / (float) state.cycle;
    }

    // ---- time, requests, changes of plans

    /** Requests a green for a group and returns the number of requests that wait at the junction. */
    public int press(int junction, int group) throws IndexOutOfBoundsException, IllegalStateException {
        raise(pressFault(junction, group));
        history.push(state);
        return makeRequest(junction, group);
    }

    /** Lets seconds pass and returns the number of requests that are served in them. */
    public int run(int seconds) throws IllegalArgumentException, IllegalStateException {
        raise(runFault(seconds));
        history.push(state);
        return state.letPass(seconds);
    }

    /** Returns in how many seconds a change of plans breaks no clearance for the first time. */
    public int soonest(int junction) throws IndexOutOfBoundsException, NoSuchElementException {
        Junction here = found(junction);
        int seconds = here.secondsToChange(state.time, state.cycle);
        need(seconds != NONE, NOT_THERE);
        return seconds;
    }

    /** Plans a change of plans for the soonest time and returns in how many seconds it is. */
    public int change(int junction)
            throws IndexOutOfBoundsException, IllegalStateException, NoSuchElementException {
        raise(changeFault(junction));
        history.push(state);
        return planChange(junction);
    }

    /** Mounts a head and returns the number of heads of the group. */
    public int mount(int junction, int group, int place, int head)
            throws IndexOutOfBoundsException, IllegalArgumentException, UnsupportedOperationException {
        Junction here = foundWith(junction, group);
        need(isWithin(place, 0, PLACES - 1), NO_SUCH_PART);
        need(isWithin(head, 0, BUS_HEAD), OUT_OF_RANGE);
        raise(faultOfReason(here.takesHead(group, head) ? NO_REASON : WRONG_HEAD));
        history.push(state);
        here.heads[group * PLACES + place] = head;
        return here.headCount(group);
    }

    // ---- accounts

    /** Returns an account. */
    public int account(int what) throws IllegalArgumentException {
        need(isWithin(what, 0, 14), OUT_OF_RANGE);
        switch (what) {
            case 0: return state.junctionCount;
            case 4: return state.time;
            case 11: return state.cycle;
            case 12: return state.speed;
            case 13: return history.count;
            case 14: return script.length;
            default: return state.sumOf(what);
        }
    }

    /** Returns the bits of the share of the time for which a group was lit. */
    public int litShare(int junction, int group) throws IndexOutOfBoundsException, ArithmeticException {
        Junction here = foundWith(junction, group);
        if (state.time < 1) {
            throw new ArithmeticException("no second has passed");
        }
        return bitsOfShare((float) here.litSeconds[group] / (float) state.time);
    }

    /** Returns the mean of the seconds for which the served requests waited. */
    public double meanWait() throws ArithmeticException {
        int served = state.sumOf(SERVED_REQUESTS);
        if (served < 1) {
            throw new ArithmeticException("no request was served");
        }
        return (double) state.sumOf(WAITED_SECONDS) / (double) served;
    }

    // ---- texts

    /** Appends the characters of an int to the buffer and returns how many it holds. */
    public int append(int packed) throws IllegalArgumentException, IllegalStateException {
        int count = 0;
        for (int shift = 24; shift >= 0; shift -= 8) {
            int sign = packed >>> shift & 255;
            need(sign == 0 || isWithin(sign, 33, 126), OUT_OF_RANGE);
            count += sign == 0 ? 0 : 1;
        }
        need(script.length + count <= MOST_SIGNS, NOT_NOW);
        for (int shift = 24; shift >= 0; shift -= 8) {
            script.add((char) (packed >>> shift & 255));
        }
        return script.length;
    }

    /** Carries out the commands of the text in the buffer and returns their number. */
    public int text() throws IllegalArgumentException, IllegalStateException {
        lastError = script.read();
        script.length = 0;
        need(lastError == NONE, OUT_OF_RANGE);
        before.copyFrom(state);
        for (int command = 0; command < script.count; command++) {
            if (commandFault(command) != NO_FAULT) {
                lastError = script.starts[command];
                state.copyFrom(before);
                throw new IllegalStateException("a command of the text cannot be carried out");
            }
            carryOut(command);
        }
        history.push(before);
        return script.count;
    }

    /** Returns the error position of the latest text, -1 if there is none. */
    public int errorPosition() {
        return lastError;
    }

    /** Writes the report on a junction and returns its length. */
    public int report(int junction) throws IndexOutOfBoundsException {
        Junction here = found(junction);
        int second = here.localSecond(state.time, state.cycle);
        page.write(junction, here, second, here.onSet(here.presentPlan, second, state.cycle));
        return page.length;
    }

    /** Returns a character of the report. */
    public char character(int index) throws IndexOutOfBoundsException {
        need(isWithin(index, 0, page.length - 1), NO_SUCH_PART);
        return page.signs[index];
    }

    // ---- undo and saving

    /** Undoes the latest change and returns how many can still be undone. */
    public int undo() throws IllegalStateException {
        need(history.count > 0, NOT_NOW);
        history.popInto(state);
        return history.count;
    }

    /** Saves all that goes back when a change is undone and returns the number of junctions. */
    public int save() {
        saved.copyFrom(state);
        isSaved = true;
        return state.junctionCount;
    }

    /** Restores what was saved and returns the number of junctions. */
    public int restore() throws IllegalStateException {
        need(isSaved, NOT_NOW);
        state.copyFrom(saved);
        history.count = 0;
        return state.junctionCount;
    }

    // ---- what calls and commands share

    private int offsetFault(int junction, int seconds) {
        Junction here = state.find(junction);
        if (here == null) {
            return NO_SUCH_PART;
        }
        if (!isWithin(seconds, 0, state.cycle - 1)) {
            return OUT_OF_RANGE;
        }
        return here.isChangePlanned() ? NOT_NOW : NO_FAULT;
    }

    private int setOffset(int junction, int seconds) {
        Junction here = found(junction);
        int previous = here.offset;
        here.offset = seconds;
        return previous;
    }

    private int roadFault(int junction, int there, int back) {
        Junction here = state.find(junction);
        boolean isThere = here != null && here.hasGroup(there) && here.hasGroup(back);
        return isThere ? NO_FAULT : NO_SUCH_PART;
    }

    private int setRoadGroups(int junction, int there, int back) {
        Junction here = found(junction);
        int previous = here.hasRoadGroup(0) ? 10 * here.roadGroups[0] + here.roadGroups[1] : NONE;
        here.roadGroups[0] = there;
        here.roadGroups[1] = back;
        return previous;
    }

    private int greenFault(int junction, int plan, int group, int first, int length) {
        Junction here = state.find(junction);
        if (here == null || !isPlan(plan) || !here.hasGroup(group)) {
            return NO_SUCH_PART;
        }
        if (!isGreen(first, length)) {
            return OUT_OF_RANGE;
        }
        if (here.isChangePlanned()) {
            return NOT_NOW;
        }
        return faultOfReason(here.reasonAgainstGreen(plan, group, first, length, state.cycle));
    }

    private int giveGreen(int junction, int plan, int group, int first, int length) {
        Junction here = found(junction);
        here.setGreen(plan, group, first, length);
        return here.greenCount(plan);
    }

    private int pressFault(int junction, int group) {
        Junction here = state.find(junction);
        if (here == null || !here.hasGroup(group)) {
            return NO_SUCH_PART;
        }
        return here.isByRequest(group) ? NO_FAULT : NOT_NOW;
    }

    private int makeRequest(int junction, int group) {
        Junction here = found(junction);
        if (!here.isWaiting(group)) {
            here.requestTimes[group] = state.time;
        }
        return here.waitingCount();
    }

    private int runFault(int seconds) {
        if (!isWithin(seconds, 1, MOST_SECONDS)) {
            return OUT_OF_RANGE;
        }
        return state.time + seconds > MOST_TIME ? NOT_NOW : NO_FAULT;
    }

    private int changeFault(int junction) {
        Junction here = state.find(junction);
        if (here == null) {
            return NO_SUCH_PART;
        }
        if (here.isChangePlanned()) {
            return NOT_NOW;
        }
        return here.secondsToChange(state.time, state.cycle) == NONE ? NOT_THERE : NO_FAULT;
    }

    private int planChange(int junction) {
        Junction here = found(junction);
        int seconds = here.secondsToChange(state.time, state.cycle);
        here.plannedTime = state.time + seconds;
        return seconds;
    }

    private int commandFault(int command) {
        Word word = script.words[command];
        int junction = script.numberAt(command, 0);
        int second = script.numberAt(command, 1);
        int third = script.numberAt(command, 2);
        if (word == null) {
            return NOT_THERE;
        }
        switch (word) {
            case GREEN:
                return greenFault(junction, second, third, script.numberAt(command, 3), script.numberAt(command, 4));
            case OFFSET:
                return offsetFault(junction, second);
            case PRESS:
                return pressFault(junction, second);
            case RUN:
                return runFault(junction);
            case CHANGE:
                return changeFault(junction);
            default:
                return roadFault(junction, second, third);
        }
    }

    private void carryOut(int command) {
        Word word = script.words[command];
        int junction = script.numberAt(command, 0);
        int second = script.numberAt(command, 1);
        int third = script.numberAt(command, 2);
        if (word == null) {
            return;
        }
        switch (word) {
            case GREEN:
                giveGreen(junction, second, third, script.numberAt(command, 3), script.numberAt(command, 4));
                break;
            case OFFSET:
                setOffset(junction, second);
                break;
            case PRESS:
                makeRequest(junction, second);
                break;
            case RUN:
                state.letPass(junction);
                break;
            case CHANGE:
                planChange(junction);
                break;
            default:
                setRoadGroups(junction, second, third);
                break;
        }
    }

    // ---- tests of numbers, and exceptions

    private Junction found(int junction) {
        Junction here = state.find(junction);
        if (here == null) {
            throw new IndexOutOfBoundsException("there is no such junction");
        }
        return here;
    }

    private Junction foundWith(int junction, int group) {
        Junction here = found(junction);
        need(here.hasGroup(group), NO_SUCH_PART);
        return here;
    }

    private boolean isGreen(int first, int length) {
        return isWithin(first, 0, state.cycle - 1) && isWithin(length, 1, state.cycle);
    }

    private static boolean isPlan(int plan) {
        return isWithin(plan, 0, PLANS - 1);
    }

    private static boolean isDirection(int direction) {
        return isWithin(direction, 0, DIRECTIONS - 1);
    }

    private static boolean isClearance(int seconds) {
        return isWithin(seconds, 0, MOST_CLEARANCE);
    }

    private static boolean isWithin(int number, int least, int most) {
        return number >= least && number <= most;
    }

    /** Keeps a reason, since it is asked for later, also if a text with the refused command fails. */
    private int faultOfReason(int reason) {
        if (reason == NO_REASON) {
            return NO_FAULT;
        }
        lastReason = reason;
        return REFUSED;
    }

    private static void need(boolean isFine, int fault) {
        if (!isFine) {
            raise(fault);
        }
    }

    private static void raise(int fault) {
        switch (fault) {
            case NO_SUCH_PART: throw new IndexOutOfBoundsException("there is no such part or index");
            case OUT_OF_RANGE: throw new IllegalArgumentException("an argument or the text is not a valid one");
            case NOT_NOW: throw new IllegalStateException("this is not possible in the present state");
            case REFUSED: throw new UnsupportedOperationException("this is refused, and the reason is kept");
            case NOT_THERE: throw new NoSuchElementException("there is nothing of this kind");
            default: break;
        }
    }

    // ---- seconds of a cycle

    private static int wrap(int seconds, int cycle) {
        if (cycle < 1) {
            return 0;
        }
        int rest = seconds % cycle;
        return rest < 0 ? rest + cycle : rest;
    }

    /** The gap from the green that begins and lasts as told to one that begins at next. */
    private static int gap(int first, int length, int next, int cycle) {
        return wrap(next - first - length, cycle);
    }

    /** The earlier one of two reasons, of which 0 is none. */
    private static int earlierReason(int one, int other) {
        if (one == NO_REASON || other == NO_REASON) {
            return Math.max(one, other);
        }
        return Math.min(one, other);
    }

    /** The library's way to the bits of a float is outside the rules, so they are put together here. */
    private static int bitsOfShare(float share) {
        if (!(share > 0)) {
            return 0;
        }
        float scaled = share;
        int exponent = EXPONENT_OF_ONE;
        while (scaled < 1 && exponent > 1) {
            scaled = scaled * 2;
            exponent--;
        }
        int one = 1 << FRACTION_BITS;
        return (exponent << FRACTION_BITS) + (int) (scaled * one) - one;
    }

    /** All that goes back when a change is undone. */
    private static final class State {
        int cycle = 60;
        int speed = 14;
        int time;
        int junctionCount;
        final Junction[] junctions = new Junction[MOST_JUNCTIONS];

        State() {
            for (int k = 0; k < MOST_JUNCTIONS; k++) {
                junctions[k] = new Junction();
            }
        }

        void copyFrom(State other) {
            cycle = other.cycle;
            speed = other.speed;
            time = other.time;
            junctionCount = other.junctionCount;
            for (int k = 0; k < MOST_JUNCTIONS; k++) {
                junctions[k].copyFrom(other.junctions[k]);
            }
        }

        /** Returns a junction, or null if there is none of this number. */
        Junction find(int number) {
            return isWithin(number, 0, junctionCount - 1) ? junctions[number] : null;
        }

        int lastPosition() {
            return junctionCount > 0 ? junctions[junctionCount - 1].position : NONE;
        }

        int addJunction(int position) {
            junctions[junctionCount].position = position;
            junctionCount++;
            return junctionCount - 1;
        }

        boolean canTakeCycle(int seconds) {
            for (int k = 0; k < junctionCount; k++) {
                Junction each = junctions[k];
                boolean hasGreen = each.greenCount(0) + each.greenCount(1) > 0;
                if (hasGreen || each.offset >= seconds || each.isChangePlanned()) {
                    return false;
                }
            }
            return true;
        }

        /** Lets seconds pass; returns the number of requests that are served in them. */
        int letPass(int seconds) {
            int served = 0;
            for (int k = 0; k < seconds; k++) {
                for (int j = 0; j < junctionCount; j++) {
                    served += junctions[j].letSecondPass(time, cycle);
                }
                time++;
            }
            return served;
        }

        int sumOf(int what) {
            int sum = 0;
            for (int k = 0; k < junctionCount; k++) {
                sum += junctions[k].amountOf(what);
            }
            return sum;
        }
    }

    /** A junction with its groups, conflicts and plans. */
    private static final class Junction {
        int position;
        int offset;
        int groupCount;
        int presentPlan;
        int plannedTime = NONE;
        int served;
        int waitedSeconds;
        int byRequestSet;
        int givenSet;
        final int[] roadGroups = new int[DIRECTIONS];
        final int[] kinds = new int[MOST_GROUPS];
        final int[] leasts = new int[MOST_GROUPS];
        final int[] litSeconds = new int[MOST_GROUPS];
        final int[] requestTimes = new int[MOST_GROUPS];
        final int[] heads = new int[MOST_GROUPS * PLACES];
        final int[] clearances = new int[MOST_GROUPS * MOST_GROUPS];
        final int[] firsts = new int[PLANS * MOST_GROUPS];
        /** The lengths of the greens; a group without a green has 0 here. */
        final int[] lengths = new int[PLANS * MOST_GROUPS];

        Junction() {
            Arrays.fill(roadGroups, NONE);
            Arrays.fill(requestTimes, NONE);
            Arrays.fill(heads, NONE);
            Arrays.fill(clearances, NONE);
        }

        void copyFrom(Junction other) {
            position = other.position;
            offset = other.offset;
            groupCount = other.groupCount;
            presentPlan = other.presentPlan;
            plannedTime = other.plannedTime;
            served = other.served;
            waitedSeconds = other.waitedSeconds;
            byRequestSet = other.byRequestSet;
            givenSet = other.givenSet;
            System.arraycopy(other.roadGroups, 0, roadGroups, 0, DIRECTIONS);
            System.arraycopy(other.kinds, 0, kinds, 0, MOST_GROUPS);
            System.arraycopy(other.leasts, 0, leasts, 0, MOST_GROUPS);
            System.arraycopy(other.litSeconds, 0, litSeconds, 0, MOST_GROUPS);
            System.arraycopy(other.requestTimes, 0, requestTimes, 0, MOST_GROUPS);
            System.arraycopy(other.heads, 0, heads, 0, MOST_GROUPS * PLACES);
            System.arraycopy(other.clearances, 0, clearances, 0, MOST_GROUPS * MOST_GROUPS);
            System.arraycopy(other.firsts, 0, firsts, 0, PLANS * MOST_GROUPS);
            System.arraycopy(other.lengths, 0, lengths, 0, PLANS * MOST_GROUPS);
        }

        int addGroup(int kind, int least, boolean isByRequest) {
            int number = groupCount;
            kinds[number] = kind;
            leasts[number] = least;
            byRequestSet |= isByRequest ? 1 << number : 0;
            groupCount++;
            return number;
        }

        boolean hasGroup(int group) {
            return isWithin(group, 0, groupCount - 1);
        }

        boolean isByRequest(int group) {
            return (byRequestSet >>> group & 1) == 1;
        }

        boolean isGiven(int group) {
            return (givenSet >>> group & 1) == 1;
        }

        boolean isWaiting(int group) {
            return requestTimes[group] != NONE;
        }

        boolean isChangePlanned() {
            return plannedTime != NONE;
        }

        boolean hasRoadGroup(int direction) {
            return roadGroups[direction] != NONE;
        }

        int clearanceFrom(int one, int other) {
            return clearances[one * MOST_GROUPS + other];
        }

        boolean areInConflict(int one, int other) {
            return clearanceFrom(one, other) != NONE;
        }

        void setClearances(int one, int other, int there, int back) {
            clearances[one * MOST_GROUPS + other] = there;
            clearances[other * MOST_GROUPS + one] = back;
        }

        int firstOf(int plan, int group) {
            return firsts[plan * MOST_GROUPS + group];
        }

        int lengthOf(int plan, int group) {
            return lengths[plan * MOST_GROUPS + group];
        }

        boolean hasGreen(int plan, int group) {
            return lengthOf(plan, group) > 0;
        }

        void setGreen(int plan, int group, int first, int length) {
            firsts[plan * MOST_GROUPS + group] = first;
            lengths[plan * MOST_GROUPS + group] = length;
        }

        // ---- counts and sets

        /** What a junction adds to an account; the numbers are those of the accounts. */
        int amountOf(int what) {
            switch (what) {
                case 1: return groupCount;
                case 2: return conflictCount();
                case 3: return greenCount(0) + greenCount(1);
                case 5: return litSum();
                case SERVED_REQUESTS: return served;
                case 7: return waitingCount();
                case WAITED_SECONDS: return waitedSeconds;
                case 9: return isChangePlanned() ? 1 : 0;
                case 10: return headSum();
                default: return 0;
            }
        }

        int conflictSet(int group) {
            int set = 0;
            for (int other = 0; other < groupCount; other++) {
                set |= areInConflict(group, other) ? 1 << other : 0;
            }
            return set;
        }

        int conflictCount() {
            int sides = 0;
            for (int group = 0; group < groupCount; group++) {
                sides += Integer.bitCount(conflictSet(group));
            }
            return sides / 2;
        }

        int greenCount(int plan) {
            int count = 0;
            for (int group = 0; group < groupCount; group++) {
                count += hasGreen(plan, group) ? 1 : 0;
            }
            return count;
        }

        int waitingCount() {
            int count = 0;
            for (int group = 0; group < groupCount; group++) {
                count += isWaiting(group) ? 1 : 0;
            }
            return count;
        }

        int litSum() {
            int sum = 0;
            for (int group = 0; group < groupCount; group++) {
                sum += litSeconds[group];
            }
            return sum;
        }

        int headSum() {
            int sum = 0;
            for (int group = 0; group < groupCount; group++) {
                sum += headCount(group);
            }
            return sum;
        }

        int headCount(int group) {
            int count = 0;
            for (int place = 0; place < PLACES; place++) {
                count += heads[group * PLACES + place] == NONE ? 0 : 1;
            }
            return count;
        }

        boolean takesHead(int group, int head) {
            switch (kinds[group]) {
                case FOR_CARS: return head <= ARROW_HEAD;
                case FOR_WALKERS: return head == WALKER_HEAD;
                default: return true;
            }
        }

        // ---- what is on

        int localSecond(int time, int cycle) {
            return wrap(time - offset, cycle);
        }

        boolean isOn(int plan, int group, int second, int cycle) {
            return wrap(second - firstOf(plan, group), cycle) < lengthOf(plan, group);
        }

        int onSet(int plan, int second, int cycle) {
            int set = 0;
            for (int group = 0; group < groupCount; group++) {
                set |= isOn(plan, group, second, cycle) ? 1 << group : 0;
            }
            return set;
        }

        /** Returns the different set at an index, the number of them for -1, or -1 if there is none. */
        int pictureAt(int plan, int index, int cycle) {
            long seen = 0;
            int count = 0;
            for (int second = 0; second < cycle; second++) {
                int set = onSet(plan, second, cycle);
                if ((seen >>> set & 1) == 0) {
                    if (count == index) {
                        return set;
                    }
                    seen |= 1L << set;
                    count++;
                }
            }
            return index == NONE ? count : NONE;
        }

        // ---- reasons

        int reasonAgainstGreen(int plan, int group, int first, int length, int cycle) {
            if (length < leasts[group]) {
                return TOO_SHORT;
            }
            if (length > cycle - SPARE_SECONDS) {
                return TOO_LONG;
            }
            int reason = NO_REASON;
            for (int other = 0; other < groupCount; other++) {
                if (areInConflict(group, other) && hasGreen(plan, other)) {
                    int there = clearanceFrom(group, other);
                    int back = clearanceFrom(other, group);
                    int clash = clashWith(plan * MOST_GROUPS + other, first, length, there, back, cycle);
                    reason = earlierReason(reason, clash);
                }
            }
            return reason;
        }

        /** Only these two groups are looked at: all other conflicts are kept by the plans at any time. */
        int reasonAgainstConflict(int one, int other, int there, int back, int cycle) {
            for (int plan = 0; plan < PLANS; plan++) {
                if (hasGreen(plan, one) && hasGreen(plan, other)) {
                    int first = firstOf(plan, one);
                    int reason = clashWith(plan * MOST_GROUPS + other, first, lengthOf(plan, one), there, back, cycle);
                    if (reason != NO_REASON) {
                        return reason;
                    }
                }
            }
            return NO_REASON;
        }

        /** The reason 3, 4 or 5 for which a green does not go with the one that is kept in a cell. */
        private int clashWith(int cell, int first, int length, int there, int back, int cycle) {
            int otherFirst = firsts[cell];
            int otherLength = lengths[cell];
            boolean isOnAtOther = wrap(otherFirst - first, cycle) < length;
            boolean isOtherOnHere = wrap(first - otherFirst, cycle) < otherLength;
            if (isOnAtOther || isOtherOnHere) {
                return ON_TOGETHER;
            }
            if (gap(otherFirst, otherLength, first, cycle) < back) {
                return TOO_SOON_AFTER;
            }
            return gap(first, length, otherFirst, cycle) < there ? TOO_SOON_BEFORE : NO_REASON;
        }

        // ---- time

        /** Lets the second of a time pass; returns the number of requests that are served in it. */
        int letSecondPass(int time, int cycle) {
            if (plannedTime == time) {
                presentPlan = 1 - presentPlan;
                plannedTime = NONE;
                givenSet = 0;
            }
            int servedBefore = served;
            int second = localSecond(time, cycle);
            for (int group = 0; group < groupCount; group++) {
                if (isOn(presentPlan, group, second, cycle)) {
                    showGreen(group, second, time);
                }
            }
            return served - servedBefore;
        }

        private void showGreen(int group, int second, int time) {
            if (isByRequest(group) && second == firstOf(presentPlan, group)) {
                decideRequest(group, time);
            }
            if (!isByRequest(group) || isGiven(group)) {
                litSeconds[group]++;
            }
        }

        private void decideRequest(int group, int time) {
            if (!isWaiting(group)) {
                givenSet &= ~(1 << group);
                return;
            }
            givenSet |= 1 << group;
            served++;
            waitedSeconds += time - requestTimes[group];
            requestTimes[group] = NONE;
        }

        /** The groups that would be lit if the second of a time passed, while nothing changes. */
        int litSet(int time, int cycle) {
            boolean isChanged = plannedTime == time;
            int plan = isChanged ? 1 - presentPlan : presentPlan;
            int second = localSecond(time, cycle);
            int set = 0;
            for (int group = 0; group < groupCount; group++) {
                boolean isFirst = second == firstOf(plan, group);
                boolean isAsGiven = isFirst ? isWaiting(group) : isGiven(group) && !isChanged;
                boolean isAllowed = !isByRequest(group) || isAsGiven;
                set |= isAllowed && isOn(plan, group, second, cycle) ? 1 << group : 0;
            }
            return set;
        }

        // ---- changes of plans

        /** Returns in how many seconds a change breaks no clearance, or -1 if it always does. */
        int secondsToChange(int time, int cycle) {
            int second = localSecond(time, cycle);
            for (int wait = 0; wait < cycle; wait++) {
                if (isChangeClear(wrap(second + wait, cycle), cycle)) {
                    return wait;
                }
            }
            return NONE;
        }

        private boolean isChangeClear(int second, int cycle) {
            for (int one = 0; one < groupCount; one++) {
                for (int other = 0; other < groupCount; other++) {
                    if (areInConflict(one, other) && breaksClearance(one, other, second, cycle)) {
                        return false;
                    }
                }
            }
            return true;
        }

        private boolean breaksClearance(int one, int other, int second, int cycle) {
            int next = 1 - presentPlan;
            if (!hasGreen(presentPlan, one) || !hasGreen(next, other)) {
                return false;
            }
            int between = secondsOff(one, second, cycle) + secondsUntilOn(next, other, second, cycle);
            return between < clearanceFrom(one, other);
        }

        /** For how many seconds up to a second, itself not counted, a group has been off by the present plan. */
        private int secondsOff(int group, int second, int cycle) {
            int age = wrap(second - 1 - firstOf(presentPlan, group), cycle);
            return Math.max(0, age - lengthOf(presentPlan, group) + 1);
        }

        int secondsUntilOn(int plan, int group, int second, int cycle) {
            int age = wrap(second - firstOf(plan, group), cycle);
            return age < lengthOf(plan, group) ? 0 : cycle - age;
        }
    }

    /** The phases of a junction, and their greens when a plan is made. */
    private static final class Phases {
        int count;
        final int[] phaseOf = new int[MOST_GROUPS];
        final int[] starts = new int[MOST_GROUPS];
        final int[] lengths = new int[MOST_GROUPS];
        /** The seconds between each phase and the one that follows it. */
        final int[] pauses = new int[MOST_GROUPS];

        /** Puts the groups into the fewest phases, the first way in lexicographic order. */
        void divide(Junction here) {
            for (int limit = 1; limit <= here.groupCount; limit++) {
                if (isPlaced(here, phaseOf, 0, 0, limit)) {
                    count = limit;
                    return;
                }
            }
            count = 0;
        }

        /** Places the groups from one on; the first ones are in used phases of at most limit ones. */
        private static boolean isPlaced(Junction here, int[] phaseOf, int group, int used, int limit) {
            if (group >= here.groupCount || group >= MOST_GROUPS) {
                return true;
            }
            for (int phase = 0; phase <= used && phase < limit; phase++) {
                if (isPeaceful(here, phaseOf, group, phase)) {
                    phaseOf[group] = phase;
                    if (isPlaced(here, phaseOf, group + 1, Math.max(used, phase + 1), limit)) {
                        return true;
                    }
                }
            }
            return false;
        }

        private static boolean isPeaceful(Junction here, int[] phaseOf, int group, int phase) {
            for (int other = 0; other < group; other++) {
                if (phaseOf[other] == phase && here.areInConflict(group, other)) {
                    return false;
                }
            }
            return true;
        }

        /** Finds the greens of all phases; returns the reason against them, 0 if there is none. */
        int layOut(Junction here, int cycle) {
            divide(here);
            measure(here);
            int left = cycle;
            for (int phase = 0; phase < count; phase++) {
                left -= lengths[phase] + pauses[phase];
            }
            if (left < 0) {
                return OVER_CYCLE;
            }
            spread(left, cycle - SPARE_SECONDS);
            setStarts();
            return isClear(here, cycle) ? NO_REASON : PHASES_CLASH;
        }

        private void measure(Junction here) {
            Arrays.fill(lengths, 0);
            Arrays.fill(pauses, 0);
            for (int group = 0; group < here.groupCount; group++) {
                int phase = phaseOf[group];
                int next = phase + 1 < count ? phase + 1 : 0;
                lengths[phase] = Math.max(lengths[phase], here.leasts[group]);
                pauses[phase] = Math.max(pauses[phase], clearanceTo(here, group, next));
            }
        }

        /** The greatest clearance from a group to those of a phase; one that is not in conflict has none. */
        private int clearanceTo(Junction here, int group, int phase) {
            int greatest = 0;
            for (int other = 0; other < here.groupCount; other++) {
                if (phaseOf[other] == phase) {
                    greatest = Math.max(greatest, here.clearanceFrom(group, other));
                }
            }
            return greatest;
        }

        /** Each round adds a second at least, unless all greens are as long as they may be. */
        private void spread(int seconds, int most) {
            int left = seconds;
            for (int round = 0; round < seconds && left > 0; round++) {
                for (int phase = 0; phase < count && left > 0; phase++) {
                    if (lengths[phase] < most) {
                        lengths[phase]++;
                        left--;
                    }
                }
            }
        }

        private void setStarts() {
            int start = 0;
            for (int phase = 0; phase < count; phase++) {
                starts[phase] = start;
                start += lengths[phase] + pauses[phase];
            }
        }

        private boolean isClear(Junction here, int cycle) {
            for (int one = 0; one < here.groupCount; one++) {
                for (int other = 0; other < here.groupCount; other++) {
                    int from = phaseOf[one];
                    int seconds = gap(starts[from], lengths[from], starts[phaseOf[other]], cycle);
                    if (seconds < here.clearanceFrom(one, other)) {
                        return false;
                    }
                }
            }
            return true;
        }

        void giveGreens(Junction here, int plan) {
            for (int group = 0; group < here.groupCount; group++) {
                here.setGreen(plan, group, starts[phaseOf[group]], lengths[phaseOf[group]]);
            }
        }
    }

    /** The trips along the road. */
    private static final class Trips {
        /** The beginnings of trips that no other junction stops, while the best offset of one is looked for. */
        final int[] freeStarts = new int[MOST_CYCLE];

        boolean arePossible(State state, int direction) {
            for (int k = 0; k < state.junctionCount; k++) {
                Junction each = state.junctions[k];
                if (!each.hasRoadGroup(direction) || !each.hasGreen(each.presentPlan, each.roadGroups[direction])) {
                    return false;
                }
            }
            return state.junctionCount > 0;
        }

        /** The number of the junction that trips in a direction come to at a step, from step 0 on. */
        private int numberAt(State state, int direction, int step) {
            return direction == 0 ? step : state.junctionCount - 1 - step;
        }

        /** The metres from the junction of the step before to that of a step, 0 for the first one. */
        private int distanceTo(State state, int direction, int step) {
            if (step < 1) {
                return 0;
            }
            Junction from = state.junctions[numberAt(state, direction, step - 1)];
            Junction to = state.junctions[numberAt(state, direction, step)];
            return Math.abs(to.position - from.position);
        }

        private int secondsTo(State state, int direction, int step) {
            int metres = distanceTo(state, direction, step);
            return state.speed < 1 ? 0 : (metres + state.speed - 1) / state.speed;
        }

        private int waitAt(State state, int number, int direction, int time) {
            Junction here = state.junctions[number];
            int second = here.localSecond(time, state.cycle);
            return here.secondsUntilOn(here.presentPlan, here.roadGroups[direction], second, state.cycle);
        }

        /** Returns 0 the seconds of a trip, 1 the junctions at which it waits, 2 the seconds that it waits. */
        int numberOf(State state, int direction, int time, int what) {
            int now = time;
            int waits = 0;
            int waited = 0;
            for (int step = 0; step < state.junctionCount; step++) {
                now += secondsTo(state, direction, step);
                int wait = waitAt(state, numberAt(state, direction, step), direction, now);
                now += wait;
                waited += wait;
                waits += wait > 0 ? 1 : 0;
            }
            switch (what) {
                case 0: return now - time;
                case 1: return waits;
                default: return waited;
            }
        }

        /** The way of tripAgain: nothing is divided, each second is looked at. */
        int secondsStepByStep(State state, int direction, int time) {
            int step = 0;
            int metres = 0;
            for (int seconds = 0; seconds < LONGEST_TRIP; seconds++) {
                boolean isThere = metres >= distanceTo(state, direction, step);
                if (isThere && waitAt(state, numberAt(state, direction, step), direction, time + seconds) == 0) {
                    if (step + 1 >= state.junctionCount) {
                        return seconds;
                    }
                    step++;
                    metres = 0;
                }
                metres += state.speed;
            }
            return LONGEST_TRIP;
        }

        int bandOf(State state, int direction) {
            int band = 0;
            for (int start = 0; start < state.cycle; start++) {
                band += isFree(state, direction, start, NONE) ? 1 : 0;
            }
            return band;
        }

        /** Whether a trip never waits at the junctions but for one, at which it passes at any time. */
        private boolean isFree(State state, int direction, int start, int exception) {
            int now = start;
            for (int step = 0; step < state.junctionCount; step++) {
                now += secondsTo(state, direction, step);
                int number = numberAt(state, direction, step);
                if (number != exception && waitAt(state, number, direction, now) > 0) {
                    return false;
                }
            }
            return true;
        }

        int bestOffsetFor(State state, int junction, int direction) {
            int count = 0;
            for (int start = 0; start < state.cycle && start < MOST_CYCLE; start++) {
                if (isFree(state, direction, start, junction)) {
                    freeStarts[count] = start;
                    count++;
                }
            }
            int delay = secondsBefore(state, junction, direction);
            int best = 0;
            int greatest = 0;
            for (int offset = 0; offset < state.cycle; offset++) {
                int band = bandWith(state, junction, direction, delay - offset, count);
                if (band > greatest) {
                    greatest = band;
                    best = offset;
                }
            }
            return best;
        }

        /** The seconds that a trip without waits needs to come to a junction. */
        private int secondsBefore(State state, int junction, int direction) {
            int seconds = 0;
            for (int step = 0; step < state.junctionCount; step++) {
                seconds += secondsTo(state, direction, step);
                if (numberAt(state, direction, step) == junction) {
                    return seconds;
                }
            }
            return seconds;
        }

        /** How many free starts pass a junction whose local second is a start plus a shift. */
        private int bandWith(State state, int junction, int direction, int shift, int count) {
            Junction here = state.junctions[junction];
            int group = here.roadGroups[direction];
            int band = 0;
            for (int k = 0; k < count && k < MOST_CYCLE; k++) {
                band += here.isOn(here.presentPlan, group, freeStarts[k] + shift, state.cycle) ? 1 : 0;
            }
            return band;
        }
    }

    /** The states ahead of the latest changes; the oldest one gives way to a new one. */
    private static final class History {
        int count;
        int next;
        final State[] states = new State[MOST_CHANGES];

        History() {
            for (int k = 0; k < MOST_CHANGES; k++) {
                states[k] = new State();
            }
        }

        void push(State state) {
            states[next].copyFrom(state);
            next = next + 1 < MOST_CHANGES ? next + 1 : 0;
            count = Math.min(count + 1, MOST_CHANGES);
        }

        void popInto(State state) {
            next = next > 0 ? next - 1 : MOST_CHANGES - 1;
            count--;
            state.copyFrom(states[next]);
        }
    }

    /** The words of commands and how many numbers stand behind them. */
    private enum Word {
        GREEN("green", 5),
        OFFSET("offset", 2),
        PRESS("press", 2),
        RUN("run", 1),
        CHANGE("change", 1),
        ROAD("road", 3);

        private static final Word[] ALL = values();

        final String letters;
        final int numbers;

        Word(String letters, int numbers) {
            this.letters = letters;
            this.numbers = numbers;
        }
    }

    /** The buffer for texts, and the commands of the text that was read last. */
    private static final class Script {
        int length;
        int count;
        private int place;
        private int error;
        private final char[] signs = new char[MOST_SIGNS];
        final int[] starts = new int[MOST_COMMANDS];
        final Word[] words = new Word[MOST_COMMANDS];
        private final int[] numbers = new int[MOST_COMMANDS * MOST_NUMBERS];

        /** Adds a character; 0 is none. */
        void add(char sign) {
            if (sign != 0 && length < MOST_SIGNS) {
                signs[length] = sign;
                length++;
            }
        }

        int numberAt(int command, int index) {
            return numbers[command * MOST_NUMBERS + index];
        }

        /** Reads the commands of the whole buffer; returns the error position, -1 if there is none. */
        int read() {
            place = 0;
            count = 0;
            error = NONE;
            for (int k = 0; k < MOST_COMMANDS && error == NONE && (k == 0 || place < length); k++) {
                readCommand(k);
            }
            return error;
        }

        private void readCommand(int command) {
            starts[command] = place;
            Word word = readWord();
            if (word == null) {
                return;
            }
            words[command] = word;
            readSign(':');
            for (int k = 0; k < word.numbers && k < MOST_NUMBERS; k++) {
                if (k > 0) {
                    readSign(',');
                }
                numbers[command * MOST_NUMBERS + k] = readNumber();
            }
            readSign(';');
            count++;
        }

        /** Reads a word as far as letters go; returns null and keeps the error if it is none of those known. */
        private Word readWord() {
            int start = place;
            for (int k = 0; k < MOST_SIGNS && isNextWithin('a', 'z'); k++) {
                place++;
            }
            for (int k = 0; k < Word.ALL.length; k++) {
                if (isWord(Word.ALL[k].letters, start)) {
                    return Word.ALL[k];
                }
            }
            error = start;
            return null;
        }

        private boolean isWord(String letters, int start) {
            if (letters.length() != place - start) {
                return false;
            }
            for (int k = 0; k < letters.length(); k++) {
                if (letters.charAt(k) != signs[start + k]) {
                    return false;
                }
            }
            return true;
        }

        /** Reads a sign; the first error is kept, and nothing is read behind it. */
        private void readSign(char sign) {
            if (error == NONE) {
                if (isNextWithin(sign, sign)) {
                    place++;
                } else {
                    error = place;
                }
            }
        }

        private int readNumber() {
            int value = 0;
            int digits = 0;
            // A 0 at the front ends the number, so a digit behind it is met as a wrong sign.
            while (error == NONE && digits < MOST_DIGITS && !(digits > 0 && value == 0) && isNextWithin('0', '9')) {
                value = 10 * value + signs[place] - '0';
                digits++;
                place++;
            }
            if (error == NONE && digits == 0) {
                error = place;
            }
            return value;
        }

        private boolean isNextWithin(char least, char most) {
            return place < length && place < MOST_SIGNS && isWithin(signs[place], least, most);
        }
    }

    /** The report that was written last. */
    private static final class Report {
        int length;
        final char[] signs = new char[MOST_REPORT];

        void write(int number, Junction here, int second, int onSet) {
            int offSet = (1 << here.groupCount) - 1 & ~onSet;
            length = 0;
            addText("junction ");
            addNumber(number);
            addText(" at ");
            addNumber(here.position);
            addText(": plan ");
            addNumber(here.presentPlan);
            addText(", second ");
            addNumber(second);
            addGroups("on", onSet);
            addGroups("off", offSet);
        }

        private void addGroups(String name, int set) {
            addText(set == 0 ? ", none " : ", ");
            addText(name);
            for (int group = 0; group < MOST_GROUPS; group++) {
                if ((set >>> group & 1) == 1) {
                    addText(" ");
                    addNumber(group);
                }
            }
        }

        private void addText(String text) {
            for (int k = 0; k < text.length(); k++) {
                addSign(text.charAt(k));
            }
        }

        /** Adds a number from 0 to 9999. */
        private void addNumber(int number) {
            for (int unit = 1000; unit > 0; unit /= 10) {
                if (number >= unit || unit == 1) {
                    addSign((char) ('0' + number / unit % 10));
                }
            }
        }

        private void addSign(char sign) {
            if (length < MOST_REPORT) {
                signs[length] = sign;
                length++;
            }
        }
    }
}
