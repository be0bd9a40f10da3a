import java.util.Arrays;
import java.util.NoSuchElementException;

/**
 * Plans of critical weeks: tasks and needs, longest chains and slacks, calendars, hands that work by
 * lists, plans with their proofs, best plans, levels, money, guesses, worth and a crane.
 */
public final class CriticalweekPlans {

    private static final int MOST_TASKS = 20;
    private static final int MOST_NEEDS = 50;
    private static final int MOST_KEPT = 10;
    private static final int MOST_SIGNS = 80;
    private static final int FIRST_SIGN = 32;
    private static final int LAST_SIGN = 126;
    private static final int MOST_LENGTH = 60;
    private static final int MOST_LAG = 30;
    private static final int MOST_CUT = 5;
    private static final int MOST_CUT_COST = 99;
    private static final int CALENDARS = 4;
    private static final int WEEK = 168;
    private static final int SKILLS = 3;
    private static final int MOST_HANDS = 5;
    private static final int MOST_LIKE_HANDS = 4;
    private static final int MOST_SEARCHED = 6;
    private static final int MOST_CASES = 2000;
    private static final int MOST_GUESSED = 6;
    private static final int MOST_CRANED = 5;

    // The rows of what a book tells of a task; the first ones are in the order of the letters.
    private static final int LENGTH = 0;
    private static final int SKILL = 1;
    private static final int MACHINE = 2;
    private static final int CALENDAR = 3;
    private static final int PROJECT = 4;
    private static final int PAUSES = 5;
    private static final int WORTH = 6;
    private static final int DONE = 7;
    private static final int CUT = 8;
    private static final int CUT_COST = 9;
    private static final int LOW = 10;
    private static final int HIGH = 11;
    private static final int FACT_ROWS = 12;

    private static final String TASK_LETTERS = "lsmcpzwd";
    private static final int[] LEAST_FACTS = {1, 0, -1, 0, 0, 0, 0, 0};
    private static final int[] GREATEST_FACTS = {60, 2, 2, 3, 1, 1, 9999, 100};

    // The rows of what a book tells of a need, in the order of the letters.
    private static final int EARLIER = 0;
    private static final int LATER = 1;
    private static final int LAG = 2;
    private static final int LINK_ROWS = 3;
    private static final String NEED_LETTERS = "elg";

    private static final String RULES = "nlrst";
    private static final String SLACKS = "tfid";
    private static final String CHANGES = "hsn";

    private final Book book = new Book();
    private final Book readBook = new Book();
    private final History history = new History();
    private final Text text = new Text();
    private final Net net = new Net();
    private final Clock clock = new Clock();
    private final int[] handCounts = {1, 1, 1};
    private final int[] typed = new int[MOST_TASKS];
    private int typedCount;
    private final int[] listOrder = new int[MOST_TASKS];
    private final int[] listKeys = new int[MOST_TASKS];
    private final Plan madePlan = new Plan();
    private final Plan trialPlan = new Plan();
    private final int[] keptBegins = new int[MOST_TASKS];
    private int keptCount;
    private final LikeHands likeHands = new LikeHands(book, net);
    private final Levels levels = new Levels(book, net);
    private final Money money = new Money(book, net);
    private final Odds odds = new Odds(book, net);
    private final CraneOrders craneOrders = new CraneOrders(book, net);

    /** Creates an empty book, without a plan, with an empty text. */
    public CriticalweekPlans() {
    }

    // ---- tasks and needs

    /** Adds a task and returns its number. */
    public int task(int length) throws IllegalArgumentException, IllegalStateException {
        if (length < 1 || length > MOST_LENGTH) {
            throw new IllegalArgumentException("the length is out of range");
        }
        if (book.taskCount >= MOST_TASKS) {
            throw new IllegalStateException("there are 20 tasks");
        }
        keepBook();
        return book.addTask(length);
    }

    /** Sets something of a task and returns the number before. */
    public int set(int task, char what, int number) throws NoSuchElementException, IllegalArgumentException {
        checkTask(task);
        int row = rowOf(what);
        if (number < LEAST_FACTS[row] || number > GREATEST_FACTS[row]) {
            throw new IllegalArgumentException("the number is out of range");
        }
        if (row == LENGTH && !book.canBeLong(task, number)) {
            throw new IllegalArgumentException("the length is not above what can be cut, or not as guessed");
        }
        keepBook();
        int before = book.facts[row][task];
        book.facts[row][task] = number;
        return before;
    }

    /** Returns something of a task. */
    public int of(int task, char what) throws NoSuchElementException, IllegalArgumentException {
        checkTask(task);
        return book.facts[rowOf(what)][task];
    }

    /** Returns how many tasks there are. */
    public int tasks() {
        return book.taskCount;
    }

    /** Tells that a task needs another one and returns the number of the need. */
    public int need(int earlier, int later, int lag)
            throws NoSuchElementException, IllegalArgumentException, IllegalStateException {
        checkTask(earlier);
        checkTask(later);
        if (lag < 0 || lag > MOST_LAG) {
            throw new IllegalArgumentException("the lag is out of range");
        }
        if (book.hasNeed(earlier, later)) {
            throw new IllegalArgumentException("the one needs the other already");
        }
        if (book.ringSize(earlier, later) > 0) {
            throw new IllegalArgumentException("a ring would be closed");
        }
        if (book.needCount >= MOST_NEEDS) {
            throw new IllegalStateException("there are 50 needs");
        }
        keepBook();
        return book.addNeed(earlier, later, lag);
    }

    /** Takes a need away and returns how many there are then. */
    public int dropNeed(int number) throws NoSuchElementException {
        checkNeed(number);
        keepBook();
        book.removeNeed(number);
        return book.needCount;
    }

    /** Returns how many needs there are. */
    public int needs() {
        return book.needCount;
    }

    /** Returns something of a need. */
    public int needAt(int number, char what) throws NoSuchElementException, IllegalArgumentException {
        checkNeed(number);
        int row = NEED_LETTERS.indexOf(what);
        if (row < 0) {
            throw new IllegalArgumentException("there is no such letter");
        }
        return book.links[row][number];
    }

    /** Returns of how many tasks the shortest ring would be that a need closes, 0 if it closes none. */
    public int ring(int earlier, int later) throws NoSuchElementException {
        checkTask(earlier);
        checkTask(later);
        return book.ringSize(earlier, later);
    }

    /** Goes back on the latest change of the book and returns how many are kept then. */
    public int undo() throws NoSuchElementException {
        if (history.count == 0) {
            throw new NoSuchElementException("no change is kept");
        }
        history.takeBack(book);
        leaveOldBook();
        typedCount = 0;
        return history.count;
    }

    // ---- the text

    /** Puts a sign behind the text and returns how many it has then. */
    public int type(char sign) throws IllegalArgumentException, IllegalStateException {
        if (sign < FIRST_SIGN || sign > LAST_SIGN) {
            throw new IllegalArgumentException("the code is not 32 to 126");
        }
        if (text.count >= MOST_SIGNS) {
            throw new IllegalStateException("the text has 80 signs");
        }
        text.signs[text.count] = sign;
        text.count++;
        return text.count;
    }

    /** Takes the text away and returns how many signs it had. */
    public int erase() {
        int before = text.count;
        text.count = 0;
        return before;
    }

    /** Returns a sign of the text. */
    public char signAt(int place) throws IndexOutOfBoundsException {
        if (place < 0 || place >= text.count) {
            throw new IndexOutOfBoundsException("there is no such place");
        }
        return text.signs[place];
    }

    /** Reads the text; returns how many tasks there are then, or -1 less the fault. */
    public int read() {
        int fault = text.readInto(readBook);
        text.count = 0;
        if (fault != Text.NO_FAULT) {
            return -1 - fault;
        }
        keepBook();
        book.becomeLike(readBook);
        typedCount = 0;
        return book.taskCount;
    }

    // ---- the plain plan

    /** Returns the earliest begin of a task. */
    public int earliest(int task) throws NoSuchElementException {
        checkTask(task);
        return freshNet().begins[task];
    }

    /** Returns the latest begin of a task. */
    public int latest(int task) throws NoSuchElementException {
        checkTask(task);
        return freshNet().latests[task];
    }

    /** Returns the end of the plain plan. */
    public int end() {
        return freshNet().endTime;
    }

    /** Returns a slack of a task. */
    public int slack(int task, char kind) throws NoSuchElementException, IllegalArgumentException {
        checkTask(task);
        if (SLACKS.indexOf(kind) < 0) {
            throw new IllegalArgumentException("there is no such kind");
        }
        int[] lengths = book.facts[LENGTH];
        int total = freshNet().slackOf(task);
        int free = net.leastAfter(task) - net.begins[task] - lengths[task];
        if (kind == 't') {
            return total;
        }
        if (kind == 'f') {
            return free;
        }
        if (kind == 'i') {
            return total - free;
        }
        return Math.max(0, net.leastAfter(task) - net.greatestAhead(task, lengths) - lengths[task]);
    }

    /** Returns the length of the longest chain that begins with a task. */
    public int rest(int task) throws NoSuchElementException {
        checkTask(task);
        return freshNet().restOf(task);
    }

    /** Returns how many longest chains there are. */
    public long chains() {
        return freshNet().countChains(book.facts[LENGTH]);
    }

    /** Returns how many tasks the told chain has. */
    public int chainLength() {
        return freshNet().tellChain(book.facts[LENGTH]);
    }

    /** Returns a task of the told chain. */
    public int chainAt(int place) throws IndexOutOfBoundsException {
        int many = freshNet().tellChain(book.facts[LENGTH]);
        if (place < 0 || place >= many) {
            throw new IndexOutOfBoundsException("there is no such place");
        }
        return net.chain[place];
    }

    // ---- the clock

    /** Tells whether hours of the week work by a calendar and returns how many work then. */
    public int hours(int calendar, int from, int to, boolean isWork)
            throws IllegalArgumentException, UnsupportedOperationException {
        if (calendar < 0 || calendar >= CALENDARS) {
            throw new IllegalArgumentException("there is no such calendar");
        }
        if (from < 0 || from >= WEEK || to <= from || to > WEEK) {
            throw new IllegalArgumentException("an hour is out of range");
        }
        if (!isWork && clock.countOutside(calendar, from, to) == 0) {
            throw new UnsupportedOperationException("no hour would work");
        }
        return clock.tellHours(calendar, from, to, isWork);
    }

    /** Returns whether an hour works by a calendar. */
    public boolean isWork(int calendar, int hour) throws IllegalArgumentException {
        if (calendar < 0 || calendar >= CALENDARS || hour < 0) {
            throw new IllegalArgumentException("there is no such calendar or hour");
        }
        return clock.works[calendar][hour % WEEK] == 1;
    }

    /** Returns the begin of a task by the clock. */
    public int clockBegin(int task) throws NoSuchElementException, UnsupportedOperationException {
        checkTask(task);
        clock.putAll(book, freshNet());
        checkBegun(clock.begins[task]);
        return clock.begins[task];
    }

    /** Returns the end of a task by the clock. */
    public int clockEnd(int task) throws NoSuchElementException, UnsupportedOperationException {
        checkTask(task);
        clock.putAll(book, freshNet());
        checkBegun(clock.begins[task]);
        return clock.ends[task];
    }

    /** Returns the end of all by the clock. */
    public int clockAll() throws UnsupportedOperationException {
        clock.putAll(book, freshNet());
        int last = 0;
        for (int task = 0; task < book.taskCount; task++) {
            checkBegun(clock.begins[task]);
            last = Math.max(last, clock.ends[task]);
        }
        return last;
    }

    // ---- hands, lists and plans

    /** Tells how many hands a skill has and returns how many before. */
    public int hands(int skill, int many) throws IllegalArgumentException {
        if (skill < 0 || skill >= SKILLS || many < 1 || many > MOST_HANDS) {
            throw new IllegalArgumentException("there is no such skill, or the number is out of range");
        }
        int before = handCounts[skill];
        handCounts[skill] = many;
        return before;
    }

    /** Types a task behind the typed list and returns how many it has then. */
    public int list(int task) throws NoSuchElementException, IllegalArgumentException {
        checkTask(task);
        if (typedPlace(task) < typedCount) {
            throw new IllegalArgumentException("the task is on the list");
        }
        if (typedCount < MOST_TASKS) {
            typed[typedCount] = task;
            typedCount++;
        }
        return typedCount;
    }

    /** Empties the typed list and returns how many it had. */
    public int wipe() {
        int before = typedCount;
        typedCount = 0;
        return before;
    }

    /** Returns the task at a place of the list by a rule. */
    public int listed(char rule, int place) throws IllegalArgumentException, IndexOutOfBoundsException {
        checkRule(rule);
        if (place < 0 || place >= book.taskCount) {
            throw new IndexOutOfBoundsException("there is no such place");
        }
        makeList(rule);
        return listOrder[place];
    }

    /** Makes a plan and returns its end. */
    public int plan(char rule, char way) throws IllegalArgumentException {
        checkRule(rule);
        if (way != 'p' && way != 's') {
            throw new IllegalArgumentException("there is no such way");
        }
        makeList(rule);
        madePlan.takeOver(book, handCounts);
        if (way == 'p') {
            madePlan.makeByFreeHands(book, listOrder);
        } else {
            madePlan.makeOneByOne(book, listOrder);
        }
        madePlan.makeProof(book);
        madePlan.isByFreeHands = way == 'p';
        madePlan.isThere = true;
        return madePlan.endTime;
    }

    /** Returns when a task begins by the plan. */
    public int planBegin(int task) throws IllegalStateException, NoSuchElementException {
        checkPlan();
        checkTask(task);
        return madePlan.begins[task];
    }

    /** Returns the hand that does a task by the plan. */
    public int planHand(int task) throws IllegalStateException, NoSuchElementException {
        checkPlan();
        checkTask(task);
        return madePlan.handOf[task];
    }

    /** Returns the end of the plan. */
    public int planEnd() throws IllegalStateException {
        checkPlan();
        return madePlan.endTime;
    }

    /** Returns how many hands of a skill work in an hour by the plan. */
    public int busy(int skill, int hour) throws IllegalStateException, IllegalArgumentException {
        checkPlan();
        if (skill < 0 || skill >= SKILLS || hour < 0) {
            throw new IllegalArgumentException("there is no such skill or hour");
        }
        return madePlan.countWorking(book, skill, hour);
    }

    /** Returns how many tasks the proof of the plan has. */
    public int proofLength() throws IllegalStateException {
        checkPlan();
        return madePlan.proofCount;
    }

    /** Returns a task of the proof. */
    public int proofAt(int place) throws IllegalStateException, IndexOutOfBoundsException {
        checkPlan();
        if (place < 0 || place >= madePlan.proofCount) {
            throw new IndexOutOfBoundsException("there is no such place");
        }
        return madePlan.proof[place];
    }

    /** Tells whether the proof proves the plan. */
    public boolean isProved() throws IllegalStateException {
        checkPlan();
        return madePlan.doesProofHold(book);
    }

    /** Returns the least end with some like hands. */
    public int best(int hands) throws IllegalArgumentException, UnsupportedOperationException {
        checkLikeHands(hands);
        freshNet();
        return likeHands.leastEndOf(hands, false);
    }

    /** Returns the least end with some like hands by lists, as hands are free. */
    public int bestByLists(int hands) throws IllegalArgumentException, UnsupportedOperationException {
        checkLikeHands(hands);
        freshNet();
        return likeHands.leastEndOf(hands, true);
    }

    /** Returns the first change by which the plan by a rule ends later, -1 if there is none. */
    public int anomaly(char kind, char rule) throws IllegalArgumentException {
        if (CHANGES.indexOf(kind) < 0) {
            throw new IllegalArgumentException("there is no such kind");
        }
        checkRule(rule);
        makeList(rule);
        trialPlan.takeOver(book, handCounts);
        trialPlan.makeByFreeHands(book, listOrder);
        int before = trialPlan.endTime;
        int changes = changesOf(kind);
        for (int change = 0; change < changes; change++) {
            if (endAfterChange(kind, change) > before) {
                return change;
            }
        }
        return -1;
    }

    // ---- levels, money, guesses

    /** Returns the least peak. */
    public int leastPeak() throws UnsupportedOperationException {
        freshNet();
        if (book.taskCount > MOST_SEARCHED || !levels.areFew()) {
            throw new UnsupportedOperationException("there are too many tasks or begins");
        }
        return levels.leastOf();
    }

    /** Tells by how many hours a task can be shortened, and their cost; returns the hours before. */
    public int shorten(int task, int hours, int cost) throws NoSuchElementException, IllegalArgumentException {
        checkTask(task);
        if (hours < 0 || hours > MOST_CUT || hours >= book.facts[LENGTH][task]) {
            throw new IllegalArgumentException("the hours are out of range");
        }
        if (cost < 0 || cost > MOST_CUT_COST) {
            throw new IllegalArgumentException("the cost is out of range");
        }
        keepBook();
        int before = book.facts[CUT][task];
        book.facts[CUT][task] = hours;
        book.facts[CUT_COST][task] = cost;
        return before;
    }

    /** Returns the end if all tasks are shortened as much as they can be. */
    public int leastEnd() {
        freshNet();
        return money.shortestEnd();
    }

    /** Returns the least cost of shortening by which the end is at most a time. */
    public int leastCost(int time) throws NoSuchElementException, UnsupportedOperationException {
        freshNet();
        if (money.shortestEnd() > time) {
            throw new NoSuchElementException("the end cannot be so early");
        }
        if (!money.areFew()) {
            throw new UnsupportedOperationException("there are too many ways to shorten");
        }
        return money.leastFor(time);
    }

    /** Tells the lengths that are guessed for a task and returns how many tasks are guessed then. */
    public int guess(int task, int low, int high) throws NoSuchElementException, IllegalArgumentException {
        checkTask(task);
        int length = book.facts[LENGTH][task];
        if (low < 1 || low > length || high < length || high > MOST_LENGTH) {
            throw new IllegalArgumentException("a number is out of range");
        }
        keepBook();
        book.facts[LOW][task] = low;
        book.facts[HIGH][task] = high;
        return book.countGuessed();
    }

    /** Returns all parts of the odds. */
    public long allOdds() throws UnsupportedOperationException {
        checkGuesses();
        long parts = 1;
        int guessed = book.countGuessed();
        for (int each = 0; each < guessed; each++) {
            parts *= 6;
        }
        return parts;
    }

    /** Returns the odds that the end is at most a time. */
    public long oddsBy(int time) throws UnsupportedOperationException {
        checkGuesses();
        freshNet();
        return odds.countParts(time, Odds.NO_TASK);
    }

    /** Returns the odds that a task is critical. */
    public long oddsCritical(int task) throws NoSuchElementException, UnsupportedOperationException {
        checkTask(task);
        checkGuesses();
        freshNet();
        return odds.countParts(0, task);
    }

    // ---- worth, changes, the crane

    /** Returns the worth that is planned to be done by a time. */
    public int planned(int time) throws IllegalArgumentException {
        checkTime(time);
        return worthBy(time);
    }

    /** Returns the worth that is done. */
    public int earned() {
        return worthDone();
    }

    /** Returns how much of what is planned by a time is done. */
    public float index(int time) throws IllegalArgumentException, ArithmeticException {
        checkTime(time);
        int due = worthBy(time);
        if (due == 0) {
            throw new ArithmeticException("nothing is planned by then");
        }
        return (float) worthDone() / (float) due;
    }

    /** Keeps the earliest begins of all tasks and returns how many. */
    public int keep() {
        System.arraycopy(freshNet().begins, 0, keptBegins, 0, MOST_TASKS);
        keptCount = book.taskCount;
        return keptCount;
    }

    /** Returns how many tasks of which a begin is kept have another one now, or are not there. */
    public int moved() {
        int[] begins = freshNet().begins;
        int many = 0;
        for (int task = 0; task < keptCount; task++) {
            if (!book.hasTask(task) || begins[task] != keptBegins[task]) {
                many++;
            }
        }
        return many;
    }

    /** Returns by how much the earliest begin of a task is later than the one that is kept. */
    public int movedBy(int task) throws NoSuchElementException, IllegalStateException {
        checkTask(task);
        if (task >= keptCount) {
            throw new IllegalStateException("no begin is kept of the task");
        }
        return freshNet().begins[task] - keptBegins[task];
    }

    /** Returns the least sum of the ends of both projects, if there is one crane. */
    public int crane() throws UnsupportedOperationException {
        if (book.countWith(MACHINE, 0) > MOST_CRANED) {
            throw new UnsupportedOperationException("more than 5 tasks have the machine 0");
        }
        freshNet();
        return craneOrders.leastSum();
    }

    // ---- figures

    /** Returns the share of tasks that are critical. */
    public float criticalShare() throws ArithmeticException {
        checkAnyTask();
        freshNet();
        int critical = 0;
        for (int task = 0; task < book.taskCount; task++) {
            if (net.slackOf(task) == 0) {
                critical++;
            }
        }
        return (float) critical / (float) book.taskCount;
    }

    /** Returns the mean length of tasks. */
    public double meanLength() throws ArithmeticException {
        checkAnyTask();
        return (double) book.sumOfLengths() / (double) book.taskCount;
    }

    /** Returns a sum over the book and the text. */
    public long checksum() {
        long sum = 7;
        for (int task = 0; task < book.taskCount; task++) {
            for (int row = LENGTH; row <= DONE; row++) {
                sum = 31 * sum + book.facts[row][task];
            }
        }
        for (int number = 0; number < book.needCount; number++) {
            for (int row = 0; row < LINK_ROWS; row++) {
                sum = 31 * sum + book.links[row][number];
            }
        }
        for (int place = 0; place < text.count; place++) {
            sum = 31 * sum + text.signs[place];
        }
        return sum;
    }

    /** Checks the theorem. */
    public boolean isTrue() {
        int[] lengths = book.facts[LENGTH];
        if (freshNet().lengthOfChain(lengths) != net.endTime) {
            return false;
        }
        for (int task = 0; task < book.taskCount; task++) {
            if (net.latests[task] != net.begins[task] + net.slackOf(task)) {
                return false;
            }
        }
        if (!madePlan.isThere) {
            return true;
        }
        if (!madePlan.keepsNeeds(book) || !madePlan.keepsHandsApart(book)) {
            return false;
        }
        return !isOfTheTheorem() || (madePlan.doesProofHold(book) && isEndBounded());
    }

    // ---- checks that throw

    private void checkTask(int task) {
        if (!book.hasTask(task)) {
            throw new NoSuchElementException("there is no such task");
        }
    }

    private void checkNeed(int number) {
        if (number < 0 || number >= book.needCount) {
            throw new NoSuchElementException("there is no such need");
        }
    }

    private void checkAnyTask() {
        if (book.taskCount == 0) {
            throw new ArithmeticException("there are no tasks");
        }
    }

    private void checkRule(char rule) {
        if (RULES.indexOf(rule) < 0) {
            throw new IllegalArgumentException("there is no such rule");
        }
    }

    private void checkPlan() {
        if (!madePlan.isThere) {
            throw new IllegalStateException("there is no plan");
        }
    }

    private void checkTime(int time) {
        if (time < 0) {
            throw new IllegalArgumentException("the time is below 0");
        }
    }

    private void checkBegun(int begin) {
        if (begin < 0) {
            throw new UnsupportedOperationException("a task never begins");
        }
    }

    private void checkLikeHands(int hands) {
        if (hands < 1 || hands > MOST_LIKE_HANDS) {
            throw new IllegalArgumentException("the number of hands is out of range");
        }
        if (book.taskCount > MOST_SEARCHED) {
            throw new UnsupportedOperationException("there are more than 6 tasks");
        }
    }

    private void checkGuesses() {
        if (book.countGuessed() > MOST_GUESSED) {
            throw new UnsupportedOperationException("more than 6 tasks are guessed");
        }
    }

    private int rowOf(char what) {
        int row = TASK_LETTERS.indexOf(what);
        if (row < 0) {
            throw new IllegalArgumentException("there is no such letter");
        }
        return row;
    }

    // ---- the book's changes

    private void keepBook() {
        history.put(book);
        leaveOldBook();
    }

    /** What was made of the book as it was holds no longer. */
    private void leaveOldBook() {
        madePlan.isThere = false;
        net.isFresh = false;
    }

    private Net freshNet() {
        if (!net.isFresh) {
            net.lay(book);
        }
        return net;
    }

    // ---- lists

    private int typedPlace(int task) {
        for (int place = 0; place < typedCount; place++) {
            if (typed[place] == task) {
                return place;
            }
        }
        return MOST_TASKS;
    }

    private int listKey(char rule, int task) {
        if (rule == 'l') {
            return -book.facts[LENGTH][task];
        }
        if (rule == 'r') {
            return -net.restOf(task);
        }
        if (rule == 's') {
            return net.slackOf(task);
        }
        return rule == 't' ? typedPlace(task) : 0;
    }

    /** Puts each task behind those with a key not above its own, so that like ones stay by numbers. */
    private void makeList(char rule) {
        freshNet();
        for (int task = 0; task < book.taskCount; task++) {
            listKeys[task] = listKey(rule, task);
            int place = task;
            for (; place > 0 && listKeys[listOrder[place - 1]] > listKeys[task]; place--) {
                listOrder[place] = listOrder[place - 1];
            }
            listOrder[place] = task;
        }
    }

    // ---- anomalies

    private int changesOf(char kind) {
        if (kind == 'h') {
            return 1;
        }
        return kind == 's' ? book.taskCount : book.needCount;
    }

    private int endAfterChange(char kind, int change) {
        trialPlan.takeOver(book, handCounts);
        if (kind == 'h') {
            trialPlan.handCounts[0]++;
        } else if (kind == 'n') {
            trialPlan.leftOut = change;
        } else if (trialPlan.lengths[change] > 1) {
            trialPlan.lengths[change]--;
        }
        trialPlan.makeByFreeHands(book, listOrder);
        return trialPlan.endTime;
    }

    // ---- worth

    private int worthBy(int time) {
        int[] begins = freshNet().begins;
        int sum = 0;
        for (int task = 0; task < book.taskCount; task++) {
            int length = book.facts[LENGTH][task];
            int hoursAhead = Math.min(length, Math.max(0, time - begins[task]));
            if (length > 0) {
                sum += book.facts[WORTH][task] * hoursAhead / length;
            }
        }
        return sum;
    }

    private int worthDone() {
        int sum = 0;
        for (int task = 0; task < book.taskCount; task++) {
            sum += book.facts[WORTH][task] * book.facts[DONE][task] / 100;
        }
        return sum;
    }

    // ---- the theorem

    private boolean isOfTheTheorem() {
        return madePlan.isByFreeHands
                && book.countWith(SKILL, 0) == book.taskCount
                && book.countWith(MACHINE, -1) == book.taskCount
                && book.hasNoLags();
    }

    private boolean isEndBounded() {
        int many = madePlan.handCounts[0];
        return madePlan.endTime * many <= book.sumOfLengths() + net.endTime * (many - 1);
    }

    /** Tasks and needs, with what shorten() and guess() told. */
    private static final class Book {

        private final int[][] facts = new int[FACT_ROWS][MOST_TASKS];
        private final int[][] links = new int[LINK_ROWS][MOST_NEEDS];
        private final int[] ringTasks = new int[MOST_TASKS];
        private int taskCount;
        private int needCount;

        private void becomeLike(Book other) {
            for (int row = 0; row < FACT_ROWS; row++) {
                System.arraycopy(other.facts[row], 0, facts[row], 0, MOST_TASKS);
            }
            for (int row = 0; row < LINK_ROWS; row++) {
                System.arraycopy(other.links[row], 0, links[row], 0, MOST_NEEDS);
            }
            taskCount = other.taskCount;
            needCount = other.needCount;
        }

        private void makeEmpty() {
            taskCount = 0;
            needCount = 0;
        }

        private boolean hasTask(int task) {
            return task >= 0 && task < taskCount;
        }

        private int addTask(int length) {
            int task = taskCount;
            if (task < MOST_TASKS) {
                for (int row = 0; row < FACT_ROWS; row++) {
                    facts[row][task] = 0;
                }
                facts[LENGTH][task] = length;
                facts[MACHINE][task] = -1;
                taskCount++;
            }
            return task;
        }

        private int addNeed(int earlier, int later, int lag) {
            int number = needCount;
            if (number < MOST_NEEDS) {
                links[EARLIER][number] = earlier;
                links[LATER][number] = later;
                links[LAG][number] = lag;
                needCount++;
            }
            return number;
        }

        private void removeNeed(int number) {
            if (number < 0 || number >= needCount) {
                return;
            }
            needCount--;
            for (int row = 0; row < LINK_ROWS; row++) {
                System.arraycopy(links[row], number + 1, links[row], number, needCount - number);
            }
        }

        private boolean hasNeed(int earlier, int later) {
            for (int number = 0; number < needCount; number++) {
                if (links[EARLIER][number] == earlier && links[LATER][number] == later) {
                    return true;
                }
            }
            return false;
        }

        /** Goes from the earlier task to what it needs, all tasks of one distance at a time. */
        private int ringSize(int earlier, int later) {
            Arrays.fill(ringTasks, 0);
            ringTasks[earlier] = 1;
            for (int size = 1; size < taskCount && ringTasks[later] == 0; size++) {
                for (int number = 0; number < needCount; number++) {
                    int next = links[EARLIER][number];
                    if (ringTasks[links[LATER][number]] == size && ringTasks[next] == 0) {
                        ringTasks[next] = size + 1;
                    }
                }
            }
            return ringTasks[later];
        }

        private boolean canBeLong(int task, int length) {
            if (length <= facts[CUT][task]) {
                return false;
            }
            return !isGuessed(task) || (length >= facts[LOW][task] && length <= facts[HIGH][task]);
        }

        /** A least length of 0 cannot be guessed, and so tells that none is. */
        private boolean isGuessed(int task) {
            return facts[LOW][task] > 0;
        }

        private int countGuessed() {
            int many = 0;
            for (int task = 0; task < taskCount; task++) {
                if (isGuessed(task)) {
                    many++;
                }
            }
            return many;
        }

        private int countWith(int row, int number) {
            int many = 0;
            for (int task = 0; task < taskCount; task++) {
                if (facts[row][task] == number) {
                    many++;
                }
            }
            return many;
        }

        private boolean hasNoLags() {
            for (int number = 0; number < needCount; number++) {
                if (links[LAG][number] != 0) {
                    return false;
                }
            }
            return true;
        }

        private int sumOfLengths() {
            int sum = 0;
            for (int task = 0; task < taskCount; task++) {
                sum += facts[LENGTH][task];
            }
            return sum;
        }
    }

    /** The books of ten changes at most; a new one takes the place of the oldest one. */
    private static final class History {

        private final Book[] books = new Book[MOST_KEPT];
        private int count;
        private int next;

        private History() {
            for (int place = 0; place < MOST_KEPT; place++) {
                books[place] = new Book();
            }
        }

        private void put(Book book) {
            books[next].becomeLike(book);
            next = (next + 1) % MOST_KEPT;
            count = Math.min(count + 1, MOST_KEPT);
        }

        private void takeBack(Book into) {
            next = (next + MOST_KEPT - 1) % MOST_KEPT;
            count--;
            into.becomeLike(books[next]);
        }
    }

    /** The text, and how it is read. */
    private static final class Text {

        private static final int NO_FAULT = -1;
        private static final int NO_NUMBER = -1;
        private static final int TOO_GREAT = 1000;

        private final char[] signs = new char[MOST_SIGNS];
        private int count;
        private int place;

        /** Returns the fault; what the book is behind one does not matter. */
        private int readInto(Book book) {
            book.makeEmpty();
            place = 0;
            int fault = readTask(book);
            for (int round = 0; round < MOST_SIGNS && fault == NO_FAULT && place < count; round++) {
                if (signs[place] != ';') {
                    return place;
                }
                place++;
                fault = readTask(book);
            }
            return fault;
        }

        private int readTask(Book book) {
            int from = place;
            int length = readNumber();
            if (length < 1 || length > MOST_LENGTH || book.taskCount >= MOST_TASKS) {
                return from;
            }
            book.addTask(length);
            if (!isAt(':')) {
                return NO_FAULT;
            }
            place++;
            int fault = readNeed(book);
            for (int round = 0; round < MOST_SIGNS && fault == NO_FAULT && isAt(','); round++) {
                place++;
                fault = readNeed(book);
            }
            return fault;
        }

        private int readNeed(Book book) {
            int from = place;
            int later = book.taskCount - 1;
            int earlier = readNumber();
            if (earlier < 0 || earlier >= later || book.hasNeed(earlier, later)) {
                return from;
            }
            int lag = 0;
            if (isAt('+')) {
                place++;
                from = place;
                lag = readNumber();
                if (lag < 0 || lag > MOST_LAG) {
                    return from;
                }
            }
            book.addNeed(earlier, later, lag);
            return NO_FAULT;
        }

        /** A number of many digits stays at one that is out of every range. */
        private int readNumber() {
            int number = 0;
            int at = place;
            for (; at < count && isDigit(signs[at]); at++) {
                number = Math.min(TOO_GREAT, number * 10 + signs[at] - '0');
            }
            boolean isThere = at > place;
            place = at;
            return isThere ? number : NO_NUMBER;
        }

        private boolean isDigit(char sign) {
            return sign >= '0' && sign <= '9';
        }

        private boolean isAt(char sign) {
            return place >= 0 && place < count && signs[place] == sign;
        }
    }

    /** The tasks in an order in which none is ahead of one that it needs, and the plain plan. */
    private static final class Net {

        private boolean isFresh;
        private int taskCount;
        private int needCount;
        private int endTime;
        private final int[] order = new int[MOST_TASKS];
        private final int[] waits = new int[MOST_TASKS];
        private final int[] earlier = new int[MOST_NEEDS];
        private final int[] later = new int[MOST_NEEDS];
        private final int[] lag = new int[MOST_NEEDS];
        private final int[] begins = new int[MOST_TASKS];
        private final int[] latests = new int[MOST_TASKS];
        private final int[] chain = new int[MOST_TASKS];
        private final int[] chainLags = new int[MOST_TASKS];
        private final long[] chainCounts = new long[MOST_TASKS];

        private void lay(Book book) {
            taskCount = book.taskCount;
            needCount = book.needCount;
            orderTasks(book);
            orderNeeds(book);
            Arrays.fill(begins, 0);
            int[] lengths = book.facts[LENGTH];
            pushBegins(lengths, begins);
            endTime = lastEnd(lengths, begins);
            pullLatests(lengths, endTime, latests);
            isFresh = true;
        }

        private void orderTasks(Book book) {
            Arrays.fill(waits, 0);
            for (int number = 0; number < needCount; number++) {
                waits[book.links[LATER][number]]++;
            }
            int put = 0;
            for (int task = 0; task < taskCount; task++) {
                if (waits[task] == 0) {
                    order[put] = task;
                    put++;
                }
            }
            for (int place = 0; place < taskCount && place < put; place++) {
                for (int number = 0; number < needCount; number++) {
                    int follower = book.links[LATER][number];
                    if (book.links[EARLIER][number] != order[place]) {
                        continue;
                    }
                    waits[follower]--;
                    if (waits[follower] == 0 && put < taskCount) {
                        order[put] = follower;
                        put++;
                    }
                }
            }
        }

        /** Needs stand by the place of the later task, so one pass over them settles all tasks. */
        private void orderNeeds(Book book) {
            int put = 0;
            for (int place = 0; place < taskCount; place++) {
                for (int number = 0; number < needCount; number++) {
                    if (book.links[LATER][number] == order[place] && put < needCount) {
                        earlier[put] = book.links[EARLIER][number];
                        later[put] = order[place];
                        lag[put] = book.links[LAG][number];
                        put++;
                    }
                }
            }
        }

        /** Moves times up to where the needs let the tasks begin. */
        private void pushBegins(int[] lengths, int[] times) {
            for (int number = 0; number < needCount; number++) {
                int ahead = earlier[number];
                int let = times[ahead] + lengths[ahead] + lag[number];
                if (let > times[later[number]]) {
                    times[later[number]] = let;
                }
            }
        }

        private int lastEnd(int[] lengths, int[] times) {
            int last = 0;
            for (int task = 0; task < taskCount; task++) {
                last = Math.max(last, times[task] + lengths[task]);
            }
            return last;
        }

        private void pullLatests(int[] lengths, int end, int[] times) {
            for (int task = 0; task < taskCount; task++) {
                times[task] = end - lengths[task];
            }
            for (int number = needCount - 1; number >= 0; number--) {
                int ahead = earlier[number];
                int latest = times[later[number]] - lag[number] - lengths[ahead];
                if (latest < times[ahead]) {
                    times[ahead] = latest;
                }
            }
        }

        private int slackOf(int task) {
            return latests[task] - begins[task];
        }

        /** The longest chain that begins with a task is what holds its latest begin off the end. */
        private int restOf(int task) {
            return endTime - latests[task];
        }

        private int leastAfter(int task) {
            int least = endTime;
            for (int number = 0; number < needCount; number++) {
                if (earlier[number] == task) {
                    least = Math.min(least, begins[later[number]] - lag[number]);
                }
            }
            return least;
        }

        private int greatestAhead(int task, int[] lengths) {
            int greatest = 0;
            for (int number = 0; number < needCount; number++) {
                if (later[number] == task) {
                    int ahead = earlier[number];
                    greatest = Math.max(greatest, latests[ahead] + lengths[ahead] + lag[number]);
                }
            }
            return greatest;
        }

        private boolean isLongest(int number, int[] lengths) {
            int ahead = earlier[number];
            return restOf(ahead) == lengths[ahead] + lag[number] + restOf(later[number]);
        }

        private long countChains(int[] lengths) {
            for (int task = 0; task < taskCount; task++) {
                chainCounts[task] = restOf(task) == lengths[task] ? 1 : 0;
            }
            for (int number = needCount - 1; number >= 0; number--) {
                if (isLongest(number, lengths)) {
                    chainCounts[earlier[number]] += chainCounts[later[number]];
                }
            }
            long all = 0;
            for (int task = 0; task < taskCount; task++) {
                if (restOf(task) == endTime) {
                    all += chainCounts[task];
                }
            }
            return all;
        }

        /** Returns how many tasks the told chain has. */
        private int tellChain(int[] lengths) {
            int task = -1;
            for (int first = taskCount - 1; first >= 0; first--) {
                if (restOf(first) == endTime) {
                    task = first;
                }
            }
            int many = 0;
            for (; many < taskCount && task >= 0; many++) {
                chain[many] = task;
                int number = nextOnChain(task, lengths);
                chainLags[many] = number < 0 ? 0 : lag[number];
                task = number < 0 ? -1 : later[number];
            }
            return many;
        }

        /** Returns the place of the need of the next task, -1 behind the last one. */
        private int nextOnChain(int task, int[] lengths) {
            int found = -1;
            for (int number = 0; number < needCount; number++) {
                if (earlier[number] == task && isLongest(number, lengths)
                        && (found < 0 || later[number] < later[found])) {
                    found = number;
                }
            }
            return found;
        }

        private int lengthOfChain(int[] lengths) {
            int many = tellChain(lengths);
            int sum = 0;
            for (int place = 0; place < many; place++) {
                sum += lengths[chain[place]] + chainLags[place];
            }
            return sum;
        }
    }

    /** The calendars, and the begins and ends by them. */
    private static final class Clock {

        private static final int NEVER = -1;

        private final int[][] works = new int[CALENDARS][WEEK];
        private final int[] begins = new int[MOST_TASKS];
        private final int[] ends = new int[MOST_TASKS];

        private Clock() {
            for (int calendar = 0; calendar < CALENDARS; calendar++) {
                Arrays.fill(works[calendar], 1);
            }
        }

        private int countOutside(int calendar, int from, int to) {
            return countWork(calendar, 0, from) + countWork(calendar, to, WEEK);
        }

        private int countWork(int calendar, int from, int to) {
            int many = 0;
            for (int hour = from; hour < to; hour++) {
                many += works[calendar][hour];
            }
            return many;
        }

        private int tellHours(int calendar, int from, int to, boolean isWork) {
            for (int hour = from; hour < to; hour++) {
                works[calendar][hour] = isWork ? 1 : 0;
            }
            return countWork(calendar, 0, WEEK);
        }

        private void putAll(Book book, Net net) {
            for (int place = 0; place < net.taskCount; place++) {
                int task = net.order[place];
                int let = letOf(net, task);
                begins[task] = NEVER;
                ends[task] = NEVER;
                if (let != NEVER) {
                    putTask(book, task, let);
                }
            }
        }

        private int letOf(Net net, int task) {
            int let = 0;
            for (int number = 0; number < net.needCount; number++) {
                if (net.later[number] != task) {
                    continue;
                }
                int end = ends[net.earlier[number]];
                if (end == NEVER) {
                    return NEVER;
                }
                let = Math.max(let, end + net.lag[number]);
            }
            return let;
        }

        private void putTask(Book book, int task, int let) {
            int length = book.facts[LENGTH][task];
            int[] week = works[book.facts[CALENDAR][task]];
            if (book.facts[PAUSES][task] == 1) {
                begins[task] = firstOfRow(week, let, 1);
                ends[task] = endOfPausing(week, begins[task], length);
            } else {
                begins[task] = firstOfRow(week, let, length);
                ends[task] = begins[task] == NEVER ? NEVER : begins[task] + length;
            }
        }

        /** A row of hours that is not found with a begin in one week is found in none. */
        private int firstOfRow(int[] week, int let, int length) {
            int row = 0;
            for (int hour = let; hour < let + WEEK + length; hour++) {
                row = week[hour % WEEK] == 1 ? row + 1 : 0;
                if (row == length) {
                    return hour + 1 - length;
                }
            }
            return NEVER;
        }

        private int endOfPausing(int[] week, int begin, int length) {
            int inWeek = 0;
            for (int hour = 0; hour < WEEK; hour++) {
                inWeek += week[hour];
            }
            if (begin == NEVER || inWeek == 0) {
                return NEVER;
            }
            int fullWeeks = (length - 1) / inWeek;
            int from = begin + fullWeeks * WEEK;
            int left = length - fullWeeks * inWeek;
            for (int hour = from; hour < from + WEEK; hour++) {
                left -= week[hour % WEEK];
                if (left == 0) {
                    return hour + 1;
                }
            }
            return NEVER;
        }
    }

    /** A plan: when each task begins, and by which hand, with its proof. */
    private static final class Plan {

        private static final int NOT_BEGUN = -1;
        private static final int NO_HAND = -1;
        private static final int NO_NEED = -1;

        private boolean isThere;
        private boolean isByFreeHands;
        private int taskCount;
        private int leftOut = NO_NEED;
        private int endTime;
        private int proofCount;
        private final int[] handCounts = new int[SKILLS];
        private final int[] lengths = new int[MOST_TASKS];
        private final int[] begins = new int[MOST_TASKS];
        private final int[] ends = new int[MOST_TASKS];
        private final int[] handOf = new int[MOST_TASKS];
        private final int[] lets = new int[MOST_TASKS];
        private final int[] waits = new int[MOST_TASKS];
        private final int[] proof = new int[MOST_TASKS];
        private final int[] proofLags = new int[MOST_TASKS];

        /** A trial changes what is taken over here. */
        private void takeOver(Book book, int[] hands) {
            taskCount = book.taskCount;
            leftOut = NO_NEED;
            System.arraycopy(book.facts[LENGTH], 0, lengths, 0, MOST_TASKS);
            System.arraycopy(hands, 0, handCounts, 0, SKILLS);
        }

        private void beginAnew(Book book) {
            endTime = 0;
            Arrays.fill(begins, NOT_BEGUN);
            Arrays.fill(ends, NOT_BEGUN);
            Arrays.fill(lets, 0);
            Arrays.fill(waits, 0);
            for (int number = 0; number < book.needCount; number++) {
                if (number != leftOut) {
                    waits[book.links[LATER][number]]++;
                }
            }
        }

        private void makeByFreeHands(Book book, int[] list) {
            beginAnew(book);
            int time = 0;
            // Something begins, ends or is let at each time but the first one.
            for (int round = 0; round <= 2 * MOST_TASKS && time >= 0; round++) {
                for (int place = 0; place < taskCount; place++) {
                    int task = list[place];
                    if (begins[task] == NOT_BEGUN && waits[task] == 0 && lets[task] <= time) {
                        putIfFree(book, task, time);
                    }
                }
                time = nextTime(time);
            }
        }

        /** Returns the next time at which a task ends or is let, -1 behind all of them. */
        private int nextTime(int time) {
            int next = -1;
            for (int task = 0; task < taskCount; task++) {
                int turn = begins[task] == NOT_BEGUN ? lets[task] : ends[task];
                boolean isKnown = begins[task] != NOT_BEGUN || waits[task] == 0;
                if (isKnown && turn > time && (next < 0 || turn < next)) {
                    next = turn;
                }
            }
            return next;
        }

        private void makeOneByOne(Book book, int[] list) {
            beginAnew(book);
            for (int put = 0; put < taskCount; put++) {
                int task = firstUnput(list);
                if (task < 0) {
                    return;
                }
                int time = lets[task];
                // The least time is where the needs let the task, or at an end of one that is put.
                for (int turn = 0; turn <= taskCount && begins[task] == NOT_BEGUN && time >= 0; turn++) {
                    putIfFree(book, task, time);
                    time = nextEnd(time);
                }
            }
        }

        private int firstUnput(int[] list) {
            for (int place = 0; place < taskCount; place++) {
                if (begins[list[place]] == NOT_BEGUN && waits[list[place]] == 0) {
                    return list[place];
                }
            }
            return -1;
        }

        private int nextEnd(int time) {
            int next = -1;
            for (int task = 0; task < taskCount; task++) {
                if (ends[task] > time && (next < 0 || ends[task] < next)) {
                    next = ends[task];
                }
            }
            return next;
        }

        private void putIfFree(Book book, int task, int time) {
            int hand = freeHand(book, task, time);
            if (hand == NO_HAND) {
                return;
            }
            begins[task] = time;
            ends[task] = time + lengths[task];
            handOf[task] = hand;
            endTime = Math.max(endTime, ends[task]);
            for (int number = 0; number < book.needCount; number++) {
                if (number != leftOut && book.links[EARLIER][number] == task) {
                    int follower = book.links[LATER][number];
                    waits[follower]--;
                    lets[follower] = Math.max(lets[follower], ends[task] + book.links[LAG][number]);
                }
            }
        }

        /** Returns the hand that a task would take at a time, none if its machine is not free. */
        private int freeHand(Book book, int task, int time) {
            int skill = book.facts[SKILL][task];
            int machine = book.facts[MACHINE][task];
            int taken = 0;
            for (int other = 0; other < taskCount; other++) {
                if (begins[other] == NOT_BEGUN || ends[other] <= time || begins[other] >= time + lengths[task]) {
                    continue;
                }
                if (machine >= 0 && book.facts[MACHINE][other] == machine) {
                    return NO_HAND;
                }
                if (book.facts[SKILL][other] == skill) {
                    taken |= 1 << handOf[other];
                }
            }
            for (int hand = 0; hand < handCounts[skill]; hand++) {
                if ((taken >> hand & 1) == 0) {
                    return hand;
                }
            }
            return NO_HAND;
        }

        private int countWorking(Book book, int skill, int hour) {
            int many = 0;
            for (int task = 0; task < taskCount; task++) {
                if (book.facts[SKILL][task] == skill && begins[task] <= hour && ends[task] > hour) {
                    many++;
                }
            }
            return many;
        }

        private void makeProof(Book book) {
            int task = -1;
            for (int other = taskCount - 1; other >= 0; other--) {
                if (ends[other] == endTime) {
                    task = other;
                }
            }
            int put = taskCount;
            int lagBehind = 0;
            for (; put > 0 && task >= 0; put--) {
                proof[put - 1] = task;
                proofLags[put - 1] = lagBehind;
                int number = lastNeed(book, task);
                lagBehind = number < 0 ? 0 : book.links[LAG][number];
                task = number < 0 ? -1 : book.links[EARLIER][number];
            }
            proofCount = taskCount - put;
            System.arraycopy(proof, put, proof, 0, proofCount);
            System.arraycopy(proofLags, put, proofLags, 0, proofCount);
        }

        /** Returns the need that lets a task begin last, of several that of the lowest task. */
        private int lastNeed(Book book, int task) {
            int found = NO_NEED;
            int last = 0;
            for (int number = 0; number < book.needCount; number++) {
                if (book.links[LATER][number] != task) {
                    continue;
                }
                int ahead = book.links[EARLIER][number];
                int let = ends[ahead] + book.links[LAG][number];
                if (found < 0 || let > last || (let == last && ahead < book.links[EARLIER][found])) {
                    found = number;
                    last = let;
                }
            }
            return found;
        }

        private boolean doesProofHold(Book book) {
            int from = 0;
            for (int place = 0; place < proofCount; place++) {
                int task = proof[place];
                for (int hour = from; hour < begins[task]; hour++) {
                    if (countWorking(book, 0, hour) != handCounts[0]) {
                        return false;
                    }
                }
                from = ends[task] + proofLags[place];
            }
            return true;
        }

        private boolean keepsNeeds(Book book) {
            for (int number = 0; number < book.needCount; number++) {
                int let = ends[book.links[EARLIER][number]] + book.links[LAG][number];
                if (begins[book.links[LATER][number]] < let) {
                    return false;
                }
            }
            return true;
        }

        private boolean keepsHandsApart(Book book) {
            for (int task = 0; task < taskCount; task++) {
                for (int other = 0; other < task; other++) {
                    if (begins[task] < ends[other] && begins[other] < ends[task] && isShared(book, task, other)) {
                        return false;
                    }
                }
            }
            return true;
        }

        private boolean isShared(Book book, int task, int other) {
            int machine = book.facts[MACHINE][task];
            if (machine >= 0 && machine == book.facts[MACHINE][other]) {
                return true;
            }
            return book.facts[SKILL][task] == book.facts[SKILL][other] && handOf[task] == handOf[other];
        }
    }

    /**
     * Plans with like hands. Tasks are put in the order of their begins: one of the best plans comes of
     * that, since each plan is no later if all tasks of it are put anew in its order, as early as can be.
     */
    private static final class LikeHands {

        private static final int NOT_PUT = -1;

        private final Book book;
        private final Net net;
        private final int[] ends = new int[MOST_TASKS];
        private int hands;
        private boolean isByLists;
        private int least;
        private int bound;

        private LikeHands(Book ofBook, Net ofNet) {
            book = ofBook;
            net = ofNet;
        }

        private int leastEndOf(int howMany, boolean byLists) {
            hands = Math.max(1, howMany);
            isByLists = byLists;
            Arrays.fill(ends, NOT_PUT);
            int sum = book.sumOfLengths();
            bound = Math.max(net.endTime, (sum + hands - 1) / hands);
            least = sum + book.taskCount * MOST_LAG + 1;
            putNext(this, 0, 0, -1);
            return least;
        }

        private static void putNext(LikeHands search, int depth, int time, int lastTask) {
            if (depth >= search.net.taskCount || depth >= MOST_SEARCHED) {
                search.least = Math.min(search.least, search.lastOfEnds());
                return;
            }
            int first = search.isByLists ? search.firstBegin(time) : Integer.MAX_VALUE;
            for (int task = 0; task < search.net.taskCount && search.least > search.bound; task++) {
                int begin = search.beginOf(task, time);
                if (begin == NOT_PUT || begin > first || begin + search.net.restOf(task) >= search.least) {
                    continue;
                }
                // Tasks that begin at once are put by numbers, as their order makes no difference.
                if (begin == time && task < lastTask) {
                    continue;
                }
                search.ends[task] = begin + search.book.facts[LENGTH][task];
                putNext(search, depth + 1, begin, task);
                search.ends[task] = NOT_PUT;
            }
        }

        private int lastOfEnds() {
            int last = 0;
            for (int task = 0; task < net.taskCount; task++) {
                last = Math.max(last, ends[task]);
            }
            return last;
        }

        private int firstBegin(int time) {
            int first = Integer.MAX_VALUE;
            for (int task = 0; task < net.taskCount; task++) {
                int begin = beginOf(task, time);
                if (begin != NOT_PUT && begin < first) {
                    first = begin;
                }
            }
            return first;
        }

        /** Returns when a task can begin, not ahead of the time of the last begin; -1 if it cannot yet. */
        private int beginOf(int task, int time) {
            if (ends[task] != NOT_PUT) {
                return NOT_PUT;
            }
            int begin = time;
            for (int number = 0; number < net.needCount; number++) {
                if (net.later[number] == task) {
                    int end = ends[net.earlier[number]];
                    if (end == NOT_PUT) {
                        return NOT_PUT;
                    }
                    begin = Math.max(begin, end + net.lag[number]);
                }
            }
            for (int turn = 0; turn < net.taskCount && countAt(begin) >= hands; turn++) {
                begin = nextEnd(begin);
            }
            return begin;
        }

        /** All that are put begin no later than at the time. */
        private int countAt(int time) {
            int many = 0;
            for (int task = 0; task < net.taskCount; task++) {
                if (ends[task] > time) {
                    many++;
                }
            }
            return many;
        }

        private int nextEnd(int time) {
            int next = Integer.MAX_VALUE;
            for (int task = 0; task < net.taskCount; task++) {
                if (ends[task] > time) {
                    next = Math.min(next, ends[task]);
                }
            }
            return next;
        }
    }

    /** The least peak, by going through all begins. */
    private static final class Levels {

        private static final int NOT_PUT = -1;

        private final Net net;
        private final int[] lengths;
        private final int[] begins = new int[MOST_TASKS];
        private int least;

        private Levels(Book ofBook, Net ofNet) {
            net = ofNet;
            lengths = ofBook.facts[LENGTH];
        }

        private boolean areFew() {
            long cases = 1;
            for (int task = 0; task < net.taskCount && cases <= MOST_CASES; task++) {
                cases *= net.slackOf(task) + 1;
            }
            return cases <= MOST_CASES;
        }

        private int leastOf() {
            least = net.taskCount;
            Arrays.fill(begins, NOT_PUT);
            putNext(this, 0, 0);
            return least;
        }

        private static void putNext(Levels search, int depth, int peak) {
            if (peak >= search.least) {
                return;
            }
            if (depth >= search.net.taskCount || depth >= MOST_SEARCHED) {
                search.least = peak;
                return;
            }
            int task = search.net.order[depth];
            int latest = search.net.latests[task];
            for (int begin = search.letOf(task); begin <= latest; begin++) {
                search.begins[task] = begin;
                putNext(search, depth + 1, Math.max(peak, search.peakWith(task)));
            }
            search.begins[task] = NOT_PUT;
        }

        private int letOf(int task) {
            int let = 0;
            for (int number = 0; number < net.needCount; number++) {
                if (net.later[number] == task) {
                    int ahead = net.earlier[number];
                    let = Math.max(let, begins[ahead] + lengths[ahead] + net.lag[number]);
                }
            }
            return let;
        }

        /** The most tasks in an hour of a task work in its first one, or in the first one of another. */
        private int peakWith(int task) {
            int begin = begins[task];
            int peak = countAt(begin);
            for (int other = 0; other < net.taskCount; other++) {
                if (begins[other] > begin && begins[other] < begin + lengths[task]) {
                    peak = Math.max(peak, countAt(begins[other]));
                }
            }
            return peak;
        }

        private int countAt(int hour) {
            int many = 0;
            for (int task = 0; task < net.taskCount; task++) {
                if (begins[task] != NOT_PUT && begins[task] <= hour && hour < begins[task] + lengths[task]) {
                    many++;
                }
            }
            return many;
        }
    }

    /** What it costs to shorten tasks. */
    private static final class Money {

        private final Book book;
        private final Net net;
        private final int[] longest = new int[MOST_TASKS];
        private final int[] shortest = new int[MOST_TASKS];
        private final int[] begins = new int[MOST_TASKS];
        private int time;
        private int least;

        private Money(Book ofBook, Net ofNet) {
            book = ofBook;
            net = ofNet;
        }

        private int shortestEnd() {
            for (int task = 0; task < book.taskCount; task++) {
                longest[task] = book.facts[LENGTH][task];
                shortest[task] = longest[task] - book.facts[CUT][task];
            }
            return endWith(shortest);
        }

        private boolean areFew() {
            long cases = 1;
            for (int task = 0; task < book.taskCount && cases <= MOST_CASES; task++) {
                cases *= book.facts[CUT][task] + 1;
            }
            return cases <= MOST_CASES;
        }

        private int endWith(int[] lengths) {
            Arrays.fill(begins, 0);
            net.pushBegins(lengths, begins);
            return net.lastEnd(lengths, begins);
        }

        private int leastFor(int atMost) {
            shortestEnd();
            time = atMost;
            least = MOST_TASKS * MOST_CUT * MOST_CUT_COST + 1;
            cutFrom(this, 0, 0);
            return least;
        }

        /** Those ahead of the task are cut for good; the longest and the shortest lengths are left of others. */
        private static void cutFrom(Money search, int task, int cost) {
            if (cost >= search.least) {
                return;
            }
            if (search.endWith(search.longest) <= search.time) {
                search.least = cost;
                return;
            }
            int next = search.nextToCut(task);
            if (next >= search.book.taskCount || search.endWith(search.shortest) > search.time) {
                return;
            }
            int length = search.book.facts[LENGTH][next];
            int most = search.book.facts[CUT][next];
            int each = search.book.facts[CUT_COST][next];
            for (int cut = 0; cut <= most; cut++) {
                search.longest[next] = length - cut;
                search.shortest[next] = length - cut;
                cutFrom(search, next + 1, cost + cut * each);
            }
            search.longest[next] = length;
        }

        private int nextToCut(int task) {
            for (int next = task; next < book.taskCount; next++) {
                if (book.facts[CUT][next] > 0) {
                    return next;
                }
            }
            return MOST_TASKS;
        }
    }

    /** The odds, by going through all lengths of the tasks that are guessed. */
    private static final class Odds {

        private static final int NO_TASK = -1;

        private final Book book;
        private final Net net;
        private final int[] guessed = new int[MOST_GUESSED];
        private final int[] lengths = new int[MOST_TASKS];
        private final int[] begins = new int[MOST_TASKS];
        private final int[] latests = new int[MOST_TASKS];

        private Odds(Book ofBook, Net ofNet) {
            book = ofBook;
            net = ofNet;
        }

        /** Counts the parts in which a task is critical, or without one those that end by a time. */
        private long countParts(int time, int task) {
            System.arraycopy(book.facts[LENGTH], 0, lengths, 0, MOST_TASKS);
            int many = findGuessed();
            int cases = 1;
            for (int each = 0; each < many; each++) {
                cases *= 3;
            }
            long parts = 0;
            for (int single = 0; single < cases; single++) {
                int weight = takeLengths(many, single);
                Arrays.fill(begins, 0);
                net.pushBegins(lengths, begins);
                int end = net.lastEnd(lengths, begins);
                if (task == NO_TASK ? end <= time : isCritical(end, task)) {
                    parts += weight;
                }
            }
            return parts;
        }

        private int findGuessed() {
            int many = 0;
            for (int task = 0; task < book.taskCount && many < MOST_GUESSED; task++) {
                if (book.isGuessed(task)) {
                    guessed[many] = task;
                    many++;
                }
            }
            return many;
        }

        /** The digits to the base 3 of the case's number tell the lengths; returns its parts. */
        private int takeLengths(int many, int single) {
            int left = single;
            int weight = 1;
            for (int each = 0; each < many; each++) {
                int task = guessed[each];
                int digit = left % 3;
                left /= 3;
                if (digit == 0) {
                    lengths[task] = book.facts[LENGTH][task];
                    weight *= 4;
                } else {
                    lengths[task] = book.facts[digit == 1 ? LOW : HIGH][task];
                }
            }
            return weight;
        }

        private boolean isCritical(int end, int task) {
            net.pullLatests(lengths, end, latests);
            return latests[task] == begins[task];
        }
    }

    /** The crane, by going through all orders of its tasks that the needs let. */
    private static final class CraneOrders {

        private final Book book;
        private final Net net;
        private final int[] needed = new int[MOST_TASKS];
        private final int[] lets = new int[MOST_TASKS];
        private final int[][] begins = new int[MOST_CRANED + 1][MOST_TASKS];
        private int least;
        private int craned;

        private CraneOrders(Book ofBook, Net ofNet) {
            book = ofBook;
            net = ofNet;
        }

        private int leastSum() {
            least = Integer.MAX_VALUE;
            Arrays.fill(lets, 0);
            findNeeded();
            findCraned();
            takeNext(this, 0, 0, 0);
            return least;
        }

        /** The bits of needed are all tasks that one needs, and that those need, and so on. */
        private void findNeeded() {
            Arrays.fill(needed, 0);
            for (int number = 0; number < net.needCount; number++) {
                int ahead = net.earlier[number];
                needed[net.later[number]] |= needed[ahead] | 1 << ahead;
            }
        }

        private void findCraned() {
            craned = 0;
            for (int task = 0; task < book.taskCount; task++) {
                if (book.facts[MACHINE][task] == 0) {
                    craned |= 1 << task;
                }
            }
        }

        private static void takeNext(CraneOrders search, int depth, int taken, int freeAt) {
            if (depth > MOST_CRANED) {
                return;
            }
            int[] lengths = search.book.facts[LENGTH];
            int[] times = search.begins[depth];
            System.arraycopy(search.lets, 0, times, 0, MOST_TASKS);
            search.net.pushBegins(lengths, times);
            int sum = search.endOf(0, times) + search.endOf(1, times);
            if (sum >= search.least) {
                return;
            }
            if (taken == search.craned) {
                search.least = sum;
                return;
            }
            int left = search.craned & ~taken;
            for (int task = 0; task < search.book.taskCount; task++) {
                if ((left >> task & 1) == 1 && (search.needed[task] & left) == 0) {
                    search.lets[task] = Math.max(times[task], freeAt);
                    takeNext(search, depth + 1, taken | 1 << task, search.lets[task] + lengths[task]);
                    search.lets[task] = 0;
                }
            }
        }

        private int endOf(int project, int[] times) {
            int last = 0;
            for (int task = 0; task < book.taskCount; task++) {
                if (book.facts[PROJECT][task] == project) {
                    last = Math.max(last, times[task] + book.facts[LENGTH][task]);
                }
            }
            return last;
        }
    }
}
