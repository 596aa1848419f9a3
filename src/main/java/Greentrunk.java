/**
 * A continuous integration without a clock of its own: changes, tests, a queue that lands batches,
 * machines that run tests, and logs without secrets. ../shared/DOC.md says what each call promises.
 *
 * A tree is held as a long: four bits a file, the file 0 lowest.
 */
public final class Greentrunk {
    public static final int NONE = -1;
    public static final int DRAFT = 0, QUEUED = 1, LANDED = 2, RED = 3, CLASHED = 4, DROPPED = 5;
    public static final int OPEN = 0, PASSED = 1, FAILED = 2;
    public static final int ALWAYS = 0, TOUCHES = 1, BY = 2;
    public static final int CUT = 10;

    private static final int FILES = 12, ALL_FILES = 4095, MOST_CONTENT = 9;
    private static final int AUTHORS = 8, TEAMS = 3, MACHINES = 6;
    private static final int MOST_CHANGES = 60, MOST_EDITS = 4, MOST_PRIORITY = 3;
    private static final int MOST_TESTS = 10, MOST_TIME = 6, MOST_FLAKY = 9;
    private static final int MOST_RULES = 6, RULE_CELLS = 4, MOST_LINES = 12;
    private static final int MOST_SIZE = 8, MOST_DEPTH = 4, MOST_WEIGHT = 10, MOST_TICKS = 30;
    private static final int ALLOWED = 2, ALLOWED_IN_QUARANTINE = 5, FLAKES_TO_QUARANTINE = 2;
    private static final int SECRETS = 3, SHORTEST_SECRET = 2, MOST_DIGITS = 6, MOST_LOG = 200;

    /** Whom a wanted run is for; TAKEN is none any more. */
    private static final int FOR_FIRST = 0, FOR_FURTHER = 1, FOR_FULL = 2, TAKEN = 3;

    private final Changes changes;
    private final Pipeline pipeline;
    private final Verdicts verdicts;
    private final Lane lane;
    private final Beginnings beginnings;
    private final Wanted wanted;
    private final LogBook logBook;
    private final Machine[] machines;
    private final Machine noMachine;
    private final Row trunk;
    private final Row owners;
    private final Row weights;
    private final Row uses;
    private final Row blames;
    private int now;
    private int landedInAll;
    private int failedInFull;
    private boolean isFullAsked;
    /** Nothing can be decided or taken before something is told or called: ticks may then pass idly. */
    private boolean isSettled;

    public Greentrunk() {
        changes = new Changes();
        pipeline = new Pipeline();
        verdicts = new Verdicts();
        lane = new Lane();
        beginnings = new Beginnings();
        wanted = new Wanted();
        logBook = new LogBook();
        machines = new Machine[MACHINES];
        for (int i = 0; i < machines.length; i++) {
            machines[i] = new Machine(i == 0);
        }
        noMachine = new Machine(false);
        trunk = new Row(MOST_CHANGES + 1);
        trunk.add(0);
        owners = new Row(FILES);
        owners.addMany(FILES, NONE);
        weights = new Row(TEAMS);
        weights.addMany(TEAMS, 1);
        uses = new Row(TEAMS);
        uses.addMany(TEAMS, 0);
        blames = new Row(AUTHORS);
        blames.addMany(AUTHORS, 0);
        failedInFull = NONE;
    }

    // ---- changes

    public boolean begin(int author, int parent) throws IndexOutOfBoundsException, IllegalStateException {
        needPlace(author, AUTHORS);
        if (parent != NONE) {
            needPlace(parent, changes.count);
            needState(changes.at(parent).isToCome());
        }
        boolean wasBegun = changes.isBegun;
        changes.beginOne(author, parent);
        return wasBegun;
    }

    public int edit(int file, int content)
            throws IndexOutOfBoundsException, IllegalArgumentException, IllegalStateException {
        needPlace(file, FILES);
        needRange(content, 0, MOST_CONTENT);
        needState(changes.isBegun);
        Change begun = changes.begun;
        needState(Integer.bitCount(begun.files | 1 << file) <= MOST_EDITS);
        begun.setEdit(file, content);
        return Integer.bitCount(begun.files);
    }

    public int make() throws IllegalStateException {
        Change begun = changes.begun;
        needState(changes.isBegun && begun.files != 0 && changes.count < MOST_CHANGES);
        needState(begun.parent == NONE || changes.at(begun.parent).isToCome());
        long base = changes.baseFor(begun, trunkTree());
        needState(!begun.hasIdleEditOn(base));
        return changes.addBegun(base);
    }

    public int rebase(int change) throws IndexOutOfBoundsException, IllegalStateException {
        needPlace(change, changes.count);
        Change moved = changes.at(change);
        needState(moved.state == DRAFT);
        long base = changes.baseFor(moved, trunkTree());
        needState(!moved.hasIdleEditOn(base));
        int others = 0;
        for (int file = 0; file < FILES; file++) {
            if (hasBit(moved.files, file) && contentIn(base, file) != contentIn(moved.base, file)) {
                others++;
            }
        }
        moved.base = base;
        if (moved.parent != NONE && !changes.at(moved.parent).isToCome()) {
            moved.parent = NONE;
        }
        return others;
    }

    public int own(int file, int team) throws IndexOutOfBoundsException {
        needPlace(file, FILES);
        if (team != NONE) {
            needPlace(team, TEAMS);
        }
        int before = owners.whole(file);
        owners.set(file, team);
        return before;
    }

    public boolean approve(int change, int team) throws IndexOutOfBoundsException {
        needPlace(change, changes.count);
        needPlace(team, TEAMS);
        Change approved = changes.at(change);
        approved.approvals |= 1 << team;
        return isApproved(approved);
    }

    public int queue(int change, int priority)
            throws IndexOutOfBoundsException, IllegalArgumentException, IllegalStateException {
        needPlace(change, changes.count);
        needRange(priority, 0, MOST_PRIORITY);
        Change added = changes.at(change);
        needState(added.state == DRAFT && isApproved(added));
        if (added.parent != NONE) {
            int parentState = changes.at(added.parent).state;
            needState(parentState == QUEUED || parentState == LANDED);
        }
        putInQueue(added, priority);
        formBatches();
        return lane.order.placeOf(change);
    }

    public int drop(int change) throws IndexOutOfBoundsException, IllegalStateException {
        needPlace(change, changes.count);
        Change dropped = changes.at(change);
        needState(dropped.state == QUEUED);
        return takeOutOfQueue(dropped, DROPPED);
    }

    public int revert(int commit, int author)
            throws IndexOutOfBoundsException, IllegalArgumentException, IllegalStateException {
        needPlace(commit, trunk.count);
        needPlace(author, AUTHORS);
        needRange(commit, 1, MOST_CHANGES);
        needState(changes.count < MOST_CHANGES);
        long there = trunk.get(commit);
        long ahead = trunk.get(commit - 1);
        long latest = trunkTree();
        int files = 0;
        for (int file = 0; file < FILES; file++) {
            if (contentIn(there, file) != contentIn(ahead, file)) {
                needState(contentIn(latest, file) == contentIn(there, file));
                files |= 1 << file;
            }
        }
        Change made = changes.addRevert(author, latest, files, ahead);
        putInQueue(made, 0);
        return made.number;
    }

    // ---- tests, the pipeline

    public int test(int files, int time, int flaky) throws IllegalArgumentException, IllegalStateException {
        needRange(files, 1, ALL_FILES);
        needRange(time, 1, MOST_TIME);
        needRange(flaky, 0, MOST_FLAKY);
        needState(pipeline.count < MOST_TESTS);
        stir();
        return pipeline.addCheck(files, time, flaky);
    }

    public int breaks(int test, int file, int content, int other, int its)
            throws IndexOutOfBoundsException, IllegalArgumentException, IllegalStateException {
        needPlace(test, pipeline.count);
        needPlace(file, FILES);
        needPlace(other, FILES);
        needRange(content, 0, MOST_CONTENT);
        needRange(its, 0, MOST_CONTENT);
        Check check = pipeline.at(test);
        needArgument(hasBit(check.files, file) && hasBit(check.files, other));
        needState(check.rules.count < MOST_RULES * RULE_CELLS);
        check.rules.add(file);
        check.rules.add(content);
        check.rules.add(other);
        check.rules.add(its);
        check.reopen();
        stir();
        return check.rules.count / RULE_CELLS;
    }

    public boolean outside(int test, boolean isBroken) throws IndexOutOfBoundsException {
        needPlace(test, pipeline.count);
        Check check = pipeline.at(test);
        boolean wasBroken = check.isOutside;
        if (wasBroken != isBroken) {
            check.isOutside = isBroken;
            check.reopen();
            stir();
        }
        return wasBroken;
    }

    public int line(int test, int condition, int what)
            throws IndexOutOfBoundsException, IllegalArgumentException, IllegalStateException {
        needPlace(test, pipeline.count);
        needRange(condition, ALWAYS, BY);
        needRange(what, 0, condition == ALWAYS ? 0 : condition == TOUCHES ? FILES - 1 : TEAMS - 1);
        needState(pipeline.lineTests.count < MOST_LINES);
        stir();
        return pipeline.addLine(test, condition, what);
    }

    public boolean letBack(int test) throws IndexOutOfBoundsException {
        needPlace(test, pipeline.count);
        Check check = pipeline.at(test);
        boolean wasIn = check.isInQuarantine();
        check.flakes = 0;
        stir();
        return wasIn;
    }

    // ---- the queue, machines, time

    public int batches(int size, int depth) throws IllegalArgumentException {
        needRange(size, 1, MOST_SIZE);
        needRange(depth, 1, MOST_DEPTH);
        int before = 10 * lane.size + lane.depth;
        lane.size = size;
        lane.depth = depth;
        stir();
        return before;
    }

    public boolean come(int machine) throws IndexOutOfBoundsException {
        needPlace(machine, MACHINES);
        Machine comer = machineAt(machine);
        boolean wasThere = comer.isThere;
        comer.isThere = true;
        stir();
        return !wasThere;
    }

    public boolean vanish(int machine) throws IndexOutOfBoundsException {
        needPlace(machine, MACHINES);
        Machine gone = machineAt(machine);
        boolean ran = gone.test != NONE;
        gone.leave();
        stir();
        return ran;
    }

    public int weigh(int team, int weight) throws IndexOutOfBoundsException, IllegalArgumentException {
        needPlace(team, TEAMS);
        needRange(weight, 1, MOST_WEIGHT);
        int before = weights.whole(team);
        weights.set(team, weight);
        stir();
        return before;
    }

    public boolean fullRun() {
        boolean wasAsked = isFullAsked;
        isFullAsked = true;
        stir();
        return !wasAsked;
    }

    public int tick(int ticks) throws IllegalArgumentException {
        needRange(ticks, 1, MOST_TICKS);
        int before = landedInAll;
        for (int i = 0; i < ticks; i++) {
            passTick();
        }
        return landedInAll - before;
    }

    // ---- what is asked

    public int clock() {
        return now;
    }

    public int changes() {
        return changes.count;
    }

    public int state(int change) throws IndexOutOfBoundsException {
        needPlace(change, changes.count);
        return changes.at(change).state;
    }

    public int requires(int change) throws IndexOutOfBoundsException {
        needPlace(change, changes.count);
        return pipeline.requiredBy(changes.at(change));
    }

    public int queued() {
        formBatches();
        return lane.order.count;
    }

    public int queuedAt(int place) throws IndexOutOfBoundsException {
        formBatches();
        needPlace(place, lane.order.count);
        return lane.order.whole(place);
    }

    public int batchOf(int change) throws IndexOutOfBoundsException {
        needPlace(change, changes.count);
        formBatches();
        return lane.batchWith(change);
    }

    public boolean isBroken() {
        formBatches();
        lookAtFirstBatch();
        return beginnings.isNarrowed() && verdictBehindGood() == FAILED;
    }

    public boolean wouldLand(int change) throws IndexOutOfBoundsException {
        needPlace(change, changes.count);
        formBatches();
        long tree = trunkTree();
        long down = changes.onesThatAre(LANDED);
        for (int i = 0; i < lane.order.count; i++) {
            Change next = changes.at(lane.order.whole(i));
            if (next.standsOn(down) && next.fits(tree) && wouldPass(next.required, next.onto(tree))) {
                tree = next.onto(tree);
                down |= 1L << next.number;
            }
        }
        return changes.at(change).state == QUEUED && (down >>> change & 1) != 0;
    }

    public int commits() {
        return trunk.count;
    }

    public int content(int commit, int file) throws IndexOutOfBoundsException {
        needPlace(commit, trunk.count);
        needPlace(file, FILES);
        return contentIn(trunk.get(commit), file);
    }

    public int landedBy(int change) throws IndexOutOfBoundsException {
        needPlace(change, changes.count);
        return changes.at(change).commit;
    }

    public int verdict(int test, int commit) throws IndexOutOfBoundsException {
        needPlace(test, pipeline.count);
        needPlace(commit, trunk.count);
        return verdicts.verdictOf(pipeline.at(test), trunk.get(commit));
    }

    public int runs(int test) throws IndexOutOfBoundsException {
        needPlace(test, pipeline.count);
        return pipeline.at(test).told;
    }

    public int flaked(int test) throws IndexOutOfBoundsException {
        needPlace(test, pipeline.count);
        return pipeline.at(test).flakes;
    }

    public boolean isQuarantined(int test) throws IndexOutOfBoundsException {
        needPlace(test, pipeline.count);
        return pipeline.at(test).isInQuarantine();
    }

    public int blame(int author) throws IndexOutOfBoundsException {
        needPlace(author, AUTHORS);
        return blames.whole(author);
    }

    public int running(int machine) throws IndexOutOfBoundsException {
        needPlace(machine, MACHINES);
        return machineAt(machine).test;
    }

    public int use(int team) throws IndexOutOfBoundsException {
        needPlace(team, TEAMS);
        return uses.whole(team);
    }

    public int fullFailed() {
        return failedInFull;
    }

    // ---- logs

    public int secret(int secret, int digits, int many)
            throws IndexOutOfBoundsException, IllegalArgumentException {
        needPlace(secret, SECRETS);
        needRange(many, SHORTEST_SECRET, MOST_DIGITS);
        needArgument(hasDigits(digits, many));
        return logBook.tellSecret(secret, digits, many);
    }

    public int log(int digits, int many) throws IllegalArgumentException, IllegalStateException {
        needRange(many, 1, MOST_DIGITS);
        needArgument(hasDigits(digits, many));
        needState(logBook.digits.count + many <= MOST_LOG);
        return logBook.append(digits, many);
    }

    public int shown() {
        return logBook.open;
    }

    public int logAt(int place) throws IndexOutOfBoundsException {
        needPlace(place, logBook.open);
        return logBook.digitAt(place);
    }

    // ---- what calls need

    private static void needPlace(int place, int count) throws IndexOutOfBoundsException {
        if (place < 0 || place >= count) {
            throw new IndexOutOfBoundsException("there is no such one");
        }
    }

    private static void needRange(int value, int least, int most) throws IllegalArgumentException {
        if (value < least || value > most) {
            throw new IllegalArgumentException("an argument is out of its range");
        }
    }

    private static void needArgument(boolean isMet) throws IllegalArgumentException {
        if (!isMet) {
            throw new IllegalArgumentException("an argument does not go with the others");
        }
    }

    private static void needState(boolean isMet) throws IllegalStateException {
        if (!isMet) {
            throw new IllegalStateException("this can't be done as things are");
        }
    }

    private static boolean hasBit(int bits, int place) {
        return (bits >>> place & 1) != 0;
    }

    private static boolean hasDigits(int digits, int many) {
        int above = 1;
        for (int i = 0; i < many && i < MOST_DIGITS; i++) {
            above *= 10;
        }
        return digits >= 0 && digits < above;
    }

    private static int contentIn(long tree, int file) {
        return (int) (tree >>> 4 * file & 15);
    }

    /** All bits of these files in a tree. */
    private static long maskOf(int files) {
        long mask = 0;
        for (int file = 0; file < FILES; file++) {
            if (hasBit(files, file)) {
                mask |= 15L << 4 * file;
            }
        }
        return mask;
    }

    private Machine machineAt(int number) {
        if (number >= 0 && number < machines.length) {
            Machine found = machines[number];
            if (found != null) {
                return found;
            }
        }
        return noMachine;
    }

    private long trunkTree() {
        return trunk.get(trunk.count - 1);
    }

    /** Whatever a tick or a batch was found from may be another now. */
    private void stir() {
        lane.isFormed = false;
        isSettled = false;
    }

    // ---- the queue

    private boolean isApproved(Change change) {
        for (int file = 0; file < FILES; file++) {
            int owner = owners.whole(file);
            if (hasBit(change.files, file) && owner != NONE && !change.isApprovedBy(owner)) {
                return false;
            }
        }
        return true;
    }

    private void putInQueue(Change change, int priority) {
        change.state = QUEUED;
        change.priority = priority;
        change.turn = lane.turns;
        lane.turns++;
        stir();
    }

    /** Takes a change out, and with it those that stand on it; answers how many leave. */
    private int takeOutOfQueue(Change change, int state) {
        change.state = state;
        long gone = 1L << change.number;
        // a parent has a lower number than its children
        for (int i = change.number + 1; i < changes.count; i++) {
            Change child = changes.at(i);
            if (child.state == QUEUED && child.parent != NONE && (gone >>> child.parent & 1) != 0) {
                child.state = DROPPED;
                gone |= 1L << i;
            }
        }
        stir();
        return Long.bitCount(gone);
    }

    private void formBatches() {
        if (!lane.isFormed) {
            for (int i = 0; i < changes.count; i++) {
                Change change = changes.at(i);
                change.required = pipeline.requiredBy(change);
            }
            lane.putInOrder(changes);
            lane.form(changes, trunkTree());
            lane.isFormed = true;
        }
    }

    /** One step of deciding; answers whether there was one. */
    private boolean decideOnce() {
        formBatches();
        if (lane.order.count == 0) {
            return false;
        }
        Change first = changes.at(lane.order.whole(0));
        if (!first.fits(trunkTree())) {
            takeOutOfQueue(first, CLASHED);
            return true;
        }
        lookAtFirstBatch();
        if (beginnings.verdict == PASSED) {
            return landFirstBatch();
        }
        if (beginnings.isNarrowed() && verdictBehindGood() == PASSED) {
            Change red = changes.at(lane.members.whole(beginnings.bad - 1));
            blames.set(red.author, blames.get(red.author) + 1);
            takeOutOfQueue(red, RED);
            return true;
        }
        return false;
    }

    private boolean landFirstBatch() {
        int many = lane.endOf(0);
        if (many == 0) {
            return false;
        }
        for (int i = 0; i < many; i++) {
            Change change = changes.at(lane.members.whole(i));
            change.state = LANDED;
            change.commit = trunk.count;
        }
        landedInAll += many;
        trunk.add(lane.behind.get(0));
        stir();
        return true;
    }

    /** Looks at the beginnings of the first batch, as far as verdicts tell. */
    private void lookAtFirstBatch() {
        beginnings.start(trunkTree());
        for (int i = 0; i < lane.endOf(0); i++) {
            Change change = changes.at(lane.members.whole(i));
            beginnings.add(change, 1 + blames.whole(change.author));
        }
        beginnings.verdict = verdictOfBeginning(beginnings.bad);
        if (beginnings.verdict != FAILED) {
            return;
        }
        for (int i = 0; i < MOST_SIZE && beginnings.bad - beginnings.good > 1; i++) {
            int next = beginnings.between();
            int seen = verdictOfBeginning(next);
            if (seen == OPEN) {
                beginnings.next = next;
                return;
            }
            if (seen == PASSED) {
                beginnings.good = next;
            } else {
                beginnings.bad = next;
            }
        }
    }

    private int verdictOfBeginning(int many) {
        int required = beginnings.required.whole(many);
        long tree = beginnings.trees.get(many);
        int together = PASSED;
        for (int test = 0; test < pipeline.count; test++) {
            if (hasBit(required, test)) {
                int one = verdicts.verdictOf(pipeline.at(test), tree);
                if (one == FAILED) {
                    return FAILED;
                }
                if (one == OPEN) {
                    together = OPEN;
                }
            }
        }
        return together;
    }

    /** The tests that FAILED for the bad beginning. */
    private int failedForBad() {
        int required = beginnings.required.whole(beginnings.bad);
        long tree = beginnings.trees.get(beginnings.bad);
        int failed = 0;
        for (int test = 0; test < pipeline.count; test++) {
            if (hasBit(required, test) && verdicts.verdictOf(pipeline.at(test), tree) == FAILED) {
                failed |= 1 << test;
            }
        }
        return failed;
    }

    /**
     * What those that FAILED for the bad beginning are behind the good one: PASSED if one of them has,
     * FAILED if all have.
     */
    private int verdictBehindGood() {
        int failed = failedForBad();
        long tree = beginnings.trees.get(beginnings.good);
        int together = FAILED;
        for (int test = 0; test < pipeline.count; test++) {
            if (hasBit(failed, test)) {
                int one = verdicts.verdictOf(pipeline.at(test), tree);
                if (one == PASSED) {
                    return PASSED;
                }
                if (one == OPEN) {
                    together = OPEN;
                }
            }
        }
        return together;
    }

    private boolean wouldPass(int required, long tree) {
        for (int test = 0; test < pipeline.count; test++) {
            if (hasBit(required, test) && !verdicts.wouldPass(pipeline.at(test), tree)) {
                return false;
            }
        }
        return true;
    }

    // ---- runs and machines

    private void passTick() {
        now++;
        for (int i = 0; i < MACHINES; i++) {
            Machine machine = machineAt(i);
            if (machine.isDoneByTick()) {
                tellRun(machine);
            }
        }
        if (isSettled) {
            return;
        }
        // each step takes a change at least out of the queue
        for (int i = 0; i <= MOST_CHANGES; i++) {
            if (!decideOnce()) {
                break;
            }
        }
        endFullRun();
        listWanted();
        for (int i = 0; i < MACHINES; i++) {
            Machine machine = machineAt(i);
            if (machine.isThere && machine.test == NONE) {
                takeWanted(machine);
            }
        }
        isSettled = true;
    }

    private void tellRun(Machine machine) {
        Check check = pipeline.at(machine.test);
        if (machine.age == check.age) {
            verdicts.tell(check, machine.contents);
        }
        machine.last = machine.test;
        machine.test = NONE;
        isSettled = false;
    }

    private void endFullRun() {
        if (!isFullAsked) {
            return;
        }
        int failed = 0;
        for (int test = 0; test < pipeline.count; test++) {
            int one = verdicts.verdictOf(pipeline.at(test), trunkTree());
            if (one == OPEN) {
                return;
            }
            if (one == FAILED) {
                failed++;
            }
        }
        failedInFull = failed;
        isFullAsked = false;
    }

    private void listWanted() {
        formBatches();
        lookAtFirstBatch();
        wanted.clear();
        if (beginnings.isNarrowed()) {
            listTests(failedForBad(), beginnings.trees.get(beginnings.good), FOR_FIRST);
        } else if (beginnings.verdict == FAILED) {
            int next = beginnings.next;
            listTests(beginnings.required.whole(next), beginnings.trees.get(next), FOR_FIRST);
        } else {
            for (int batch = 0; batch < lane.ends.count; batch++) {
                listBatch(batch);
            }
        }
        if (isFullAsked) {
            listTests((1 << pipeline.count) - 1, trunkTree(), FOR_FULL);
        }
    }

    private void listTests(int tests, long tree, int what) {
        for (int test = 0; test < pipeline.count; test++) {
            if (hasBit(tests, test)) {
                want(test, tree, NONE, what);
            }
        }
    }

    private void listBatch(int batch) {
        long tree = lane.behind.get(batch);
        for (int test = 0; test < pipeline.count; test++) {
            for (int i = lane.endOf(batch - 1); i < lane.endOf(batch); i++) {
                Change change = changes.at(lane.members.whole(i));
                if (hasBit(change.required, test)) {
                    want(test, tree, change.team(), batch == 0 ? FOR_FIRST : FOR_FURTHER);
                    break;
                }
            }
        }
    }

    private void want(int test, long tree, int team, int what) {
        Check check = pipeline.at(test);
        long contents = tree & check.mask;
        if (verdicts.verdictOf(check, contents) == OPEN && !isOn(check, contents)) {
            wanted.add(test, contents, team, what);
        }
    }

    /** Whether a machine runs this, and what it will tell still counts. */
    private boolean isOn(Check check, long contents) {
        for (int i = 0; i < MACHINES; i++) {
            Machine machine = machineAt(i);
            if (machine.test == check.number && machine.contents == contents && machine.age == check.age) {
                return true;
            }
        }
        return false;
    }

    private void takeWanted(Machine machine) {
        int place = wanted.firstFor(FOR_FIRST, NONE);
        if (place == NONE) {
            int team = teamInTurn();
            place = team == NONE ? wanted.firstFor(FOR_FULL, NONE) : wanted.firstFor(FOR_FURTHER, team);
        }
        if (place == NONE) {
            return;
        }
        int team = wanted.teams.whole(place);
        int time = machine.take(pipeline.at(wanted.tests.whole(place)), wanted.contents.get(place));
        if (team != NONE) {
            uses.set(team, uses.get(team) + time);
        }
        wanted.whats.set(place, TAKEN);
    }

    /** The team with the least use by its weight, of those that want something behind the first batch. */
    private int teamInTurn() {
        int least = NONE;
        for (int team = 0; team < TEAMS; team++) {
            if (wanted.firstFor(FOR_FURTHER, team) != NONE && (least == NONE
                    || uses.get(team) * weights.get(least) < uses.get(least) * weights.get(team))) {
                least = team;
            }
        }
        return least;
    }

    // ---- the classes inside

    /** A row of numbers with a fixed room; it answers 0 outside of that, so that no index can go astray. */
    private static final class Row {
        private final long[] cells;
        int count;

        Row(int room) {
            cells = new long[room < 0 ? 0 : room];
        }

        long get(int place) {
            return place >= 0 && place < cells.length ? cells[place] : 0;
        }

        int whole(int place) {
            return place >= 0 && place < cells.length ? (int) cells[place] : 0;
        }

        void set(int place, long value) {
            if (place >= 0 && place < cells.length) {
                cells[place] = value;
            }
        }

        void add(long value) {
            if (count >= 0 && count < cells.length) {
                cells[count] = value;
                count++;
            }
        }

        void addMany(int many, long value) {
            for (int i = 0; i < many && i < cells.length; i++) {
                add(value);
            }
        }

        int placeOf(long value) {
            for (int i = 0; i < count && i < cells.length; i++) {
                if (cells[i] == value) {
                    return i;
                }
            }
            return NONE;
        }
    }

    private static final class Change {
        final int number;
        int author;
        int parent = NONE;
        int state = DRAFT;
        int commit = NONE;
        int files;
        long mask;
        long base;
        /** What it gives its files; nothing in the others. */
        long contents;
        int approvals;
        int priority;
        int turn;
        boolean isRevert;
        /** Noted when batches are formed; it may be old otherwise. */
        int required;

        Change(int number) {
            this.number = number;
        }

        boolean isToCome() {
            return state == DRAFT || state == QUEUED;
        }

        int team() {
            return author % TEAMS;
        }

        boolean isApprovedBy(int team) {
            return team() == team || hasBit(approvals, team);
        }

        boolean fits(long tree) {
            return ((tree ^ base) & mask) == 0;
        }

        long onto(long tree) {
            return tree & ~mask | contents;
        }

        /** Whether it has no parent, or that is one of these. */
        boolean standsOn(long these) {
            return parent == NONE || (these >>> parent & 1) != 0;
        }

        void setEdit(int file, int content) {
            long bits = 15L << 4 * file;
            files |= 1 << file;
            mask |= bits;
            contents = contents & ~bits | (long) content << 4 * file;
        }

        boolean hasIdleEditOn(long tree) {
            for (int file = 0; file < FILES; file++) {
                if (hasBit(files, file) && contentIn(tree, file) == contentIn(contents, file)) {
                    return true;
                }
            }
            return false;
        }

        boolean isAheadOf(Change other) {
            if (isRevert != other.isRevert) {
                return isRevert;
            }
            return priority != other.priority ? priority > other.priority : turn < other.turn;
        }
    }

    /** All changes, and the one that was begun and is not made yet. */
    private static final class Changes {
        private final Change[] all = new Change[MOST_CHANGES];
        /** Stands for a change that there is not. */
        private final Change nobody = new Change(NONE);
        final Change begun = new Change(NONE);
        boolean isBegun;
        int count;

        Changes() {
            for (int i = 0; i < all.length; i++) {
                all[i] = new Change(i);
            }
        }

        Change at(int number) {
            if (number >= 0 && number < all.length) {
                Change found = all[number];
                if (found != null) {
                    return found;
                }
            }
            return nobody;
        }

        void beginOne(int author, int parent) {
            begun.author = author;
            begun.parent = parent;
            begun.files = 0;
            begun.mask = 0;
            begun.contents = 0;
            isBegun = true;
        }

        /** The tree that a change stands on, if it is made or rebased now. */
        long baseFor(Change change, long trunkTree) {
            if (change.parent != NONE && at(change.parent).isToCome()) {
                Change parent = at(change.parent);
                return parent.onto(parent.base);
            }
            return trunkTree;
        }

        int addBegun(long base) {
            Change made = at(count);
            made.author = begun.author;
            made.parent = begun.parent;
            made.files = begun.files;
            made.mask = begun.mask;
            made.contents = begun.contents;
            made.base = base;
            isBegun = false;
            return count++;
        }

        /** Adds one that gives these files what another tree has there. */
        Change addRevert(int author, long base, int files, long other) {
            Change made = at(count);
            made.author = author;
            made.isRevert = true;
            made.base = base;
            made.files = files;
            made.mask = maskOf(files);
            made.contents = other & made.mask;
            count++;
            return made;
        }

        /** Those in a state, as bits. */
        long onesThatAre(int state) {
            long ones = 0;
            for (int i = 0; i < count; i++) {
                if (at(i).state == state) {
                    ones |= 1L << i;
                }
            }
            return ones;
        }
    }

    /** A test. */
    private static final class Check {
        final int number;
        final Row rules = new Row(MOST_RULES * RULE_CELLS);
        int files;
        long mask;
        int time;
        int flaky;
        boolean isOutside;
        /** How often its verdicts were made OPEN: what was found at another age counts no more. */
        int age;
        int told;
        int flakes;

        Check(int number) {
            this.number = number;
        }

        void reopen() {
            age++;
            told = 0;
        }

        boolean isInQuarantine() {
            return flakes >= FLAKES_TO_QUARANTINE;
        }

        int allowed() {
            return isInQuarantine() ? ALLOWED_IN_QUARANTINE : ALLOWED;
        }

        boolean fails(long tree, int run) {
            return isOutside || breaksARule(tree) || draw(tree, run) < flaky;
        }

        private boolean breaksARule(long tree) {
            for (int i = 0; i + RULE_CELLS <= rules.count; i += RULE_CELLS) {
                if (contentIn(tree, rules.whole(i)) == rules.whole(i + 1)
                        && contentIn(tree, rules.whole(i + 2)) == rules.whole(i + 3)) {
                    return true;
                }
            }
            return false;
        }

        private int draw(long tree, int run) {
            int c = number + 1;
            for (int file = 0; file < FILES; file++) {
                if (hasBit(files, file)) {
                    c = (c * 11 + contentIn(tree, file) + 1) % 10007;
                }
            }
            return (int) ((c * 7919L + run * 104729L) % 1000003 % 10);
        }
    }

    /** The tests, and the lines that require them. */
    private static final class Pipeline {
        private final Check[] checks = new Check[MOST_TESTS];
        /** Stands for a test that there is not. */
        private final Check nothing = new Check(NONE);
        final Row lineTests = new Row(MOST_LINES);
        private final Row conditions = new Row(MOST_LINES);
        private final Row objects = new Row(MOST_LINES);
        int count;

        Pipeline() {
            for (int i = 0; i < checks.length; i++) {
                checks[i] = new Check(i);
            }
        }

        Check at(int test) {
            if (test >= 0 && test < checks.length) {
                Check found = checks[test];
                if (found != null) {
                    return found;
                }
            }
            return nothing;
        }

        int addCheck(int files, int time, int flaky) {
            Check added = at(count);
            added.files = files;
            added.mask = maskOf(files);
            added.time = time;
            added.flaky = flaky;
            return count++;
        }

        int addLine(int test, int condition, int what) {
            lineTests.add(test);
            conditions.add(condition);
            objects.add(what);
            return lineTests.count;
        }

        int requiredBy(Change change) {
            int required = 0;
            for (int test = 0; test < count; test++) {
                if ((at(test).files & change.files) != 0) {
                    required |= 1 << test;
                }
            }
            for (int i = 0; i < lineTests.count; i++) {
                if (holds(conditions.whole(i), objects.whole(i), change)) {
                    required |= 1 << lineTests.whole(i);
                }
            }
            return required;
        }

        private static boolean holds(int condition, int what, Change change) {
            if (condition == TOUCHES) {
                return hasBit(change.files, what);
            }
            return condition == ALWAYS || change.team() == what;
        }
    }

    /**
     * The verdicts by test, its age and contents: a table with open places that grows. What is kept is
     * the verdict, and four times the number of failed runs; an OPEN one has no other runs.
     */
    private static final class Verdicts {
        /** The places at first, a power of two. */
        private static final int FEW_VERDICTS = 256;
        private long[] keys = new long[FEW_VERDICTS];
        private int[] values = new int[FEW_VERDICTS];
        private int used;

        int verdictOf(Check check, long tree) {
            int place = placeFor(keys, keyOf(check, tree));
            return place >= 0 && place < values.length ? values[place] & 3 : OPEN;
        }

        /** A run of a test has been done: what becomes of its verdict. */
        void tell(Check check, long contents) {
            long key = keyOf(check, contents);
            int failed = valueOf(key) >> 2;
            int verdict = PASSED;
            if (check.fails(contents, failed)) {
                failed++;
                verdict = failed >= check.allowed() ? FAILED : OPEN;
            } else if (failed > 0) {
                check.flakes++;
            }
            check.told++;
            keep(key, failed << 2 | verdict);
        }

        /** Whether a test passes by its verdict, or would by its next runs. */
        boolean wouldPass(Check check, long tree) {
            int value = valueOf(keyOf(check, tree));
            if ((value & 3) != OPEN) {
                return (value & 3) == PASSED;
            }
            int run = value >> 2;
            do {
                if (!check.fails(tree, run)) {
                    return true;
                }
                run++;
            } while (run < check.allowed());
            return false;
        }

        /** Never 0, which marks an open place. */
        private static long keyOf(Check check, long tree) {
            return (long) check.age << 52 | (long) (check.number + 1) << 48 | tree & check.mask;
        }

        private int valueOf(long key) {
            int place = placeFor(keys, key);
            return place >= 0 && place < values.length ? values[place] : 0;
        }

        private static int placeFor(long[] table, long key) {
            int place = (int) (key * 0x9E3779B97F4A7C15L >>> 33);
            for (int i = 0; i < table.length; i++) {
                place &= table.length - 1;
                if (place >= 0 && place < table.length && (table[place] == key || table[place] == 0)) {
                    return place;
                }
                place++;
            }
            return NONE;
        }

        private void keep(long key, int value) {
            if (used >= keys.length / 2) {
                grow();
            }
            int place = placeFor(keys, key);
            if (place >= 0 && place < keys.length && place < values.length) {
                if (keys[place] == 0) {
                    used++;
                }
                keys[place] = key;
                values[place] = value;
            }
        }

        private void grow() {
            int room = keys.length < 1 << 24 ? 2 * keys.length : keys.length;
            long[] moreKeys = new long[room];
            int[] moreValues = new int[room];
            for (int i = 0; i < keys.length && i < values.length; i++) {
                if (keys[i] != 0) {
                    int place = placeFor(moreKeys, keys[i]);
                    if (place >= 0 && place < room) {
                        moreKeys[place] = keys[i];
                        moreValues[place] = values[i];
                    }
                }
            }
            keys = moreKeys;
            values = moreValues;
        }
    }

    /** The order of the queue, and the batches that are formed of it. */
    private static final class Lane {
        int size = 1;
        int depth = 1;
        int turns;
        boolean isFormed;
        final Row order = new Row(MOST_CHANGES);
        /** The changes of the batches, one batch behind the other, and where each batch ends there. */
        final Row members = new Row(MOST_SIZE * MOST_DEPTH);
        final Row ends = new Row(MOST_DEPTH);
        final Row behind = new Row(MOST_DEPTH);
        /** The changes that are LANDED or in a batch, as bits. */
        private long down;

        void putInOrder(Changes changes) {
            order.count = 0;
            long waiting = changes.onesThatAre(QUEUED);
            for (int i = 0; i < MOST_CHANGES && waiting != 0; i++) {
                int next = nextOf(changes, waiting);
                if (next == NONE) {
                    return;
                }
                order.add(next);
                waiting &= ~(1L << next);
            }
        }

        private static int nextOf(Changes changes, long waiting) {
            int next = NONE;
            for (int i = 0; i < changes.count; i++) {
                Change change = changes.at(i);
                boolean mayBe = (waiting >>> i & 1) != 0
                        && (change.parent == NONE || (waiting >>> change.parent & 1) == 0);
                if (mayBe && (next == NONE || change.isAheadOf(changes.at(next)))) {
                    next = i;
                }
            }
            return next;
        }

        void form(Changes changes, long trunkTree) {
            members.count = 0;
            ends.count = 0;
            behind.count = 0;
            down = changes.onesThatAre(LANDED);
            long tree = trunkTree;
            for (int batch = 0; batch < depth && batch < MOST_DEPTH; batch++) {
                int start = members.count;
                tree = formOne(changes, tree);
                if (members.count == start) {
                    return;
                }
                ends.add(members.count);
                behind.add(tree);
            }
        }

        /** Takes the next batch, on a tree; answers the tree behind it. */
        private long formOne(Changes changes, long tree) {
            long grown = tree;
            int many = 0;
            for (int i = 0; i < order.count && many < size; i++) {
                int number = order.whole(i);
                Change change = changes.at(number);
                boolean isFree = (down >>> number & 1) == 0;
                if (isFree && change.standsOn(down) && change.fits(grown)) {
                    members.add(number);
                    down |= 1L << number;
                    grown = change.onto(grown);
                    many++;
                }
            }
            return grown;
        }

        /** Where a batch ends among the members; 0 for the one ahead of the first. */
        int endOf(int batch) {
            return batch >= 0 && batch < ends.count ? ends.whole(batch) : 0;
        }

        int batchWith(int change) {
            int place = members.placeOf(change);
            for (int batch = 0; batch < ends.count && place != NONE; batch++) {
                if (place < ends.whole(batch)) {
                    return batch;
                }
            }
            return NONE;
        }
    }

    /** The beginnings of the first batch by how many changes they have, and what is known of them. */
    private static final class Beginnings {
        final Row trees = new Row(MOST_SIZE + 1);
        final Row required = new Row(MOST_SIZE + 1);
        /** The weights of all changes up to there. */
        private final Row weightsTo = new Row(MOST_SIZE + 1);
        int verdict;
        int good;
        int bad;
        /** The one that is looked at next; NONE if there is none to look at. */
        int next;

        void start(long trunkTree) {
            trees.count = 0;
            required.count = 0;
            weightsTo.count = 0;
            trees.add(trunkTree);
            required.add(0);
            weightsTo.add(0);
            good = 0;
            bad = 0;
            next = NONE;
        }

        /** Adds a change: the beginning with it is the bad one, if any is. */
        void add(Change change, int weight) {
            trees.add(change.onto(trees.get(bad)));
            required.add(required.get(bad) | change.required);
            weightsTo.add(weightsTo.get(bad) + weight);
            bad++;
        }

        /** The next beginning to be looked at between the good and the bad one. */
        int between() {
            long all = weightsTo.get(bad) - weightsTo.get(good);
            for (int k = good + 1; k < bad; k++) {
                if (2 * (weightsTo.get(k) - weightsTo.get(good)) >= all) {
                    return k;
                }
            }
            return bad - 1;
        }

        /** Whether the batch has FAILED and no beginning is between the good and the bad one. */
        boolean isNarrowed() {
            return verdict == FAILED && bad - good == 1;
        }
    }

    private static final class Machine {
        boolean isThere;
        int last = NONE;
        int test = NONE;
        long contents;
        int age;
        private int left;

        Machine(boolean isThere) {
            this.isThere = isThere;
        }

        /** Takes a run; answers its time. */
        int take(Check check, long runContents) {
            int time = last == check.number && check.time > 1 ? check.time - 1 : check.time;
            test = check.number;
            contents = runContents;
            age = check.age;
            left = time;
            return time;
        }

        /** Goes on for a tick; answers whether a run is done by that. */
        boolean isDoneByTick() {
            if (test == NONE) {
                return false;
            }
            left--;
            return left <= 0;
        }

        void leave() {
            isThere = false;
            last = NONE;
            test = NONE;
        }
    }

    /** The runs that are wanted, in their order. */
    private static final class Wanted {
        private static final int ROOM = (MOST_DEPTH + 1) * MOST_TESTS;
        final Row tests = new Row(ROOM);
        final Row contents = new Row(ROOM);
        final Row teams = new Row(ROOM);
        final Row whats = new Row(ROOM);

        void clear() {
            tests.count = 0;
            contents.count = 0;
            teams.count = 0;
            whats.count = 0;
        }

        void add(int test, long runContents, int team, int what) {
            for (int i = 0; i < tests.count; i++) {
                if (tests.whole(i) == test && contents.get(i) == runContents) {
                    return;
                }
            }
            tests.add(test);
            contents.add(runContents);
            teams.add(team);
            whats.add(what);
        }

        /** The place of the first one of a kind, and, unless it is NONE, of a team. */
        int firstFor(int what, int team) {
            for (int i = 0; i < whats.count; i++) {
                if (whats.whole(i) == what && (team == NONE || teams.whole(i) == team)) {
                    return i;
                }
            }
            return NONE;
        }
    }

    /** The log, the secrets, and what may be seen of the one for the others. */
    private static final class LogBook {
        final Row digits = new Row(MOST_LOG);
        private final Row cuts = new Row(MOST_LOG);
        private final Row secretDigits = new Row(SECRETS * MOST_DIGITS);
        private final Row secretLengths = new Row(SECRETS);
        /** How many digits are shown. */
        int open;

        int tellSecret(int secret, int number, int many) {
            int rest = number;
            for (int i = many - 1; i >= 0; i--) {
                secretDigits.set(secret * MOST_DIGITS + i, rest % 10);
                rest /= 10;
            }
            secretLengths.set(secret, many);
            findOut();
            int told = 0;
            for (int i = 0; i < SECRETS; i++) {
                if (secretLengths.get(i) > 0) {
                    told++;
                }
            }
            return told;
        }

        int append(int number, int many) {
            int start = digits.count;
            digits.addMany(many, 0);
            int rest = number;
            for (int i = start + many - 1; i >= start; i--) {
                digits.set(i, rest % 10);
                rest /= 10;
            }
            findOut();
            return open;
        }

        int digitAt(int place) {
            return cuts.get(place) != 0 ? CUT : digits.whole(place);
        }

        private void findOut() {
            open = digits.count;
            for (int i = 0; i < digits.count; i++) {
                cuts.set(i, 0);
            }
            for (int i = 0; i < digits.count; i++) {
                for (int secret = 0; secret < SECRETS; secret++) {
                    find(secret, i);
                }
            }
        }

        /** Cuts out a secret, if it stands at a place, or hides the log from there on, if it may come to. */
        private void find(int secret, int place) {
            int many = secretLengths.whole(secret);
            int seen = 0;
            while (seen < many && place + seen < digits.count
                    && digits.get(place + seen) == secretDigits.get(secret * MOST_DIGITS + seen)) {
                seen++;
            }
            if (many > 0 && seen == many) {
                for (int i = 0; i < many; i++) {
                    cuts.set(place + i, 1);
                }
            } else if (seen > 0 && place + seen == digits.count && place < open) {
                open = place;
            }
        }
    }
}
