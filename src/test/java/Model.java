import java.util.ArrayDeque;
import java.util.ArrayList;
import java.util.Arrays;
import java.util.Collections;
import java.util.Comparator;
import java.util.Deque;
import java.util.List;
import java.util.NoSuchElementException;

/**
 * The document once more, told as plainly as can be: hour by hour, and by going through all cases. It
 * shares no way of working with the program, so that the two can be held against each other.
 */
final class Model {

    static final String LETTERS = "lsmcpzwd";
    static final int[] LEAST = {1, 0, -1, 0, 0, 0, 0, 0};
    static final int[] GREATEST = {60, 2, 2, 3, 1, 1, 9999, 100};

    static final class Task {
        final int[] facts = {1, 0, -1, 0, 0, 0, 0, 0};
        int cut;
        int cost;
        int low;
        int high;
        boolean isGuessed;

        Task copy() {
            Task other = new Task();
            System.arraycopy(facts, 0, other.facts, 0, facts.length);
            other.cut = cut;
            other.cost = cost;
            other.low = low;
            other.high = high;
            other.isGuessed = isGuessed;
            return other;
        }

        int fact(char letter) {
            return facts[LETTERS.indexOf(letter)];
        }
    }

    record Need(int earlier, int later, int lag) {
    }

    static final class Book {
        final List<Task> tasks = new ArrayList<>();
        final List<Need> needs = new ArrayList<>();

        Book copy() {
            Book other = new Book();
            for (Task task : tasks) {
                other.tasks.add(task.copy());
            }
            other.needs.addAll(needs);
            return other;
        }

        int[] lengths() {
            return tasks.stream().mapToInt(task -> task.fact('l')).toArray();
        }
    }

    static final class PlanMade {
        int[] begins;
        int[] ends;
        int[] handOf;
        int handsOfSkill0;
        int end;
    }

    Book book = new Book();
    final Deque<Book> kept = new ArrayDeque<>();
    String text = "";
    final boolean[][] works = new boolean[4][168];
    final int[] hands = {1, 1, 1};
    List<Integer> typed = new ArrayList<>();
    PlanMade plan;
    int[] keptBegins = new int[0];

    Model() {
        for (boolean[] calendar : works) {
            Arrays.fill(calendar, true);
        }
    }

    private void keepBook() {
        kept.addLast(book.copy());
        if (kept.size() > 10) {
            kept.removeFirst();
        }
        plan = null;
    }

    private Task at(int task) {
        if (task < 0 || task >= book.tasks.size()) {
            throw new NoSuchElementException();
        }
        return book.tasks.get(task);
    }

    private static void claim(boolean holds) {
        if (!holds) {
            throw new IllegalArgumentException();
        }
    }

    int task(int length) {
        claim(length >= 1 && length <= 60);
        if (book.tasks.size() == 20) {
            throw new IllegalStateException();
        }
        keepBook();
        Task task = new Task();
        task.facts[0] = length;
        book.tasks.add(task);
        return book.tasks.size() - 1;
    }

    int set(int number, char what, int value) {
        Task task = at(number);
        int letter = LETTERS.indexOf(what);
        claim(letter >= 0);
        claim(value >= LEAST[letter] && value <= GREATEST[letter]);
        if (what == 'l') {
            claim(value > task.cut);
            claim(!task.isGuessed || (task.low <= value && value <= task.high));
        }
        keepBook();
        int before = task.facts[letter];
        task.facts[letter] = value;
        return before;
    }

    int of(int number, char what) {
        Task task = at(number);
        claim(LETTERS.indexOf(what) >= 0);
        return task.fact(what);
    }

    int tasks() {
        return book.tasks.size();
    }

    int need(int earlier, int later, int lag) {
        at(earlier);
        at(later);
        claim(lag >= 0 && lag <= 30);
        for (Need need : book.needs) {
            claim(need.earlier != earlier || need.later != later);
        }
        claim(ring(earlier, later) == 0);
        if (book.needs.size() == 50) {
            throw new IllegalStateException();
        }
        keepBook();
        book.needs.add(new Need(earlier, later, lag));
        return book.needs.size() - 1;
    }

    int dropNeed(int number) {
        needAt(number, 'e');
        keepBook();
        book.needs.remove(number);
        return book.needs.size();
    }

    int needs() {
        return book.needs.size();
    }

    int needAt(int number, char what) {
        if (number < 0 || number >= book.needs.size()) {
            throw new NoSuchElementException();
        }
        Need need = book.needs.get(number);
        claim(what == 'e' || what == 'l' || what == 'g');
        return what == 'e' ? need.earlier : what == 'l' ? need.later : need.lag;
    }

    /** Goes through ever longer ways from the earlier task to what it needs. */
    int ring(int earlier, int later) {
        at(earlier);
        at(later);
        List<Integer> reached = List.of(earlier);
        for (int many = 1; many <= 20; many++) {
            if (reached.contains(later)) {
                return many;
            }
            List<Integer> next = new ArrayList<>();
            for (int task : reached) {
                for (Need need : book.needs) {
                    if (need.later == task && !next.contains(need.earlier)) {
                        next.add(need.earlier);
                    }
                }
            }
            reached = next;
        }
        return 0;
    }

    int undo() {
        if (kept.isEmpty()) {
            throw new NoSuchElementException();
        }
        book = kept.removeLast();
        plan = null;
        typed.clear();
        return kept.size();
    }

    int type(char sign) {
        claim(sign >= 32 && sign <= 126);
        if (text.length() == 80) {
            throw new IllegalStateException();
        }
        text += sign;
        return text.length();
    }

    int erase() {
        int before = text.length();
        text = "";
        return before;
    }

    char signAt(int place) {
        if (place < 0 || place >= text.length()) {
            throw new IndexOutOfBoundsException();
        }
        return text.charAt(place);
    }

    /** Reads by states: a number of a kind must stand, or a sign behind a number of that kind. */
    int read() {
        String signs = text;
        text = "";
        Book told = new Book();
        char kind = 'l';
        int earlier = -1;
        int at = 0;
        while (true) {
            int from = at;
            String digits = "";
            while (at < signs.length() && Character.isDigit(signs.charAt(at))) {
                digits += signs.charAt(at);
                at++;
            }
            if (digits.isEmpty()) {
                return -1 - from;
            }
            java.math.BigInteger big = new java.math.BigInteger(digits);
            int number = big.bitLength() > 20 ? 1 << 20 : big.intValue();
            int last = told.tasks.size() - 1;
            boolean isGood;
            if (kind == 'l') {
                isGood = number >= 1 && number <= 60 && told.tasks.size() < 20;
                Task task = new Task();
                task.facts[0] = number;
                told.tasks.add(task);
            } else if (kind == 'e') {
                isGood = number < last;
                for (Need need : told.needs) {
                    isGood &= need.earlier != number || need.later != last;
                }
                earlier = number;
                told.needs.add(new Need(number, last, 0));
            } else {
                isGood = number <= 30;
                told.needs.set(told.needs.size() - 1, new Need(earlier, last, number));
            }
            if (!isGood) {
                return -1 - from;
            }
            if (at == signs.length()) {
                break;
            }
            String behind = kind == 'l' ? ":;" : kind == 'e' ? "+,;" : ",;";
            char sign = signs.charAt(at);
            if (behind.indexOf(sign) < 0) {
                return -1 - at;
            }
            kind = sign == ';' ? 'l' : sign == '+' ? 'g' : 'e';
            at++;
        }
        keepBook();
        book = told;
        typed.clear();
        return book.tasks.size();
    }

    // ---- the plain plan

    private int begin(int task, int[] lengths) {
        int begin = 0;
        for (Need need : book.needs) {
            if (need.later == task) {
                begin = Math.max(begin, begin(need.earlier, lengths) + lengths[need.earlier] + need.lag);
            }
        }
        return begin;
    }

    private int endBy(int[] lengths) {
        int end = 0;
        for (int task = 0; task < lengths.length; task++) {
            end = Math.max(end, begin(task, lengths) + lengths[task]);
        }
        return end;
    }

    private int latest(int task, int[] lengths, int end) {
        int latest = end - lengths[task];
        for (Need need : book.needs) {
            if (need.earlier == task) {
                latest = Math.min(latest, latest(need.later, lengths, end) - need.lag - lengths[task]);
            }
        }
        return latest;
    }

    int earliest(int task) {
        at(task);
        return begin(task, book.lengths());
    }

    int latest(int task) {
        at(task);
        return latest(task, book.lengths(), end());
    }

    int end() {
        return endBy(book.lengths());
    }

    int slack(int task, char kind) {
        at(task);
        claim("tfid".indexOf(kind) >= 0);
        int[] lengths = book.lengths();
        int total = latest(task) - earliest(task);
        int least = Integer.MAX_VALUE;
        int greatest = Integer.MIN_VALUE;
        for (Need need : book.needs) {
            if (need.earlier == task) {
                least = Math.min(least, earliest(need.later) - need.lag);
            }
            if (need.later == task) {
                greatest = Math.max(greatest, latest(need.earlier) + lengths[need.earlier] + need.lag);
            }
        }
        least = least == Integer.MAX_VALUE ? end() : least;
        greatest = greatest == Integer.MIN_VALUE ? 0 : greatest;
        int free = least - (earliest(task) + lengths[task]);
        switch (kind) {
            case 't':
                return total;
            case 'f':
                return free;
            case 'i':
                return total - free;
            default:
                int alone = least - greatest - lengths[task];
                return alone < 0 ? 0 : alone;
        }
    }

    int rest(int task) {
        at(task);
        int most = 0;
        for (Need need : book.needs) {
            if (need.earlier == task) {
                most = Math.max(most, need.lag + rest(need.later));
            }
        }
        return book.lengths()[task] + most;
    }

    /** All chains that go on behind a row. */
    private void goOn(List<Integer> row, int length, List<List<Integer>> found, int[] most) {
        if (length > most[0]) {
            most[0] = length;
            found.clear();
        }
        if (length == most[0]) {
            found.add(new ArrayList<>(row));
        }
        int last = row.get(row.size() - 1);
        for (Need need : book.needs) {
            if (need.earlier == last) {
                row.add(need.later);
                goOn(row, length + need.lag + book.lengths()[need.later], found, most);
                row.remove(row.size() - 1);
            }
        }
    }

    private List<List<Integer>> longestChains() {
        List<List<Integer>> found = new ArrayList<>();
        int[] most = {0};
        for (int task = 0; task < tasks(); task++) {
            goOn(new ArrayList<>(List.of(task)), book.lengths()[task], found, most);
        }
        return found;
    }

    private List<Integer> toldChain() {
        List<Integer> told = null;
        for (List<Integer> chain : longestChains()) {
            if (told == null || Arrays.compare(numbers(chain), numbers(told)) < 0) {
                told = chain;
            }
        }
        return told == null ? List.of() : told;
    }

    private static int[] numbers(List<Integer> list) {
        return list.stream().mapToInt(Integer::intValue).toArray();
    }

    long chains() {
        return longestChains().size();
    }

    int chainLength() {
        return toldChain().size();
    }

    int chainAt(int place) {
        List<Integer> told = toldChain();
        if (place < 0 || place >= told.size()) {
            throw new IndexOutOfBoundsException();
        }
        return told.get(place);
    }

    // ---- the clock

    int hours(int calendar, int from, int to, boolean isWork) {
        claim(calendar >= 0 && calendar <= 3 && from >= 0 && from <= 167 && to > from && to <= 168);
        boolean[] told = works[calendar].clone();
        int many = 0;
        for (int hour = 0; hour < 168; hour++) {
            if (hour >= from && hour < to) {
                told[hour] = isWork;
            }
            many += told[hour] ? 1 : 0;
        }
        if (many == 0) {
            throw new UnsupportedOperationException();
        }
        works[calendar] = told;
        return many;
    }

    boolean isWork(int calendar, int hour) {
        claim(calendar >= 0 && calendar <= 3 && hour >= 0);
        return works[calendar][hour % 168];
    }

    /** Returns the begin and the end, or null. */
    private int[] byClock(int number) {
        int let = 0;
        for (Need need : book.needs) {
            if (need.later == number) {
                int[] ahead = byClock(need.earlier);
                if (ahead == null) {
                    return null;
                }
                let = Math.max(let, ahead[1] + need.lag);
            }
        }
        Task task = book.tasks.get(number);
        int length = task.fact('l');
        int calendar = task.fact('c');
        if (task.fact('z') == 1) {
            List<Integer> worked = new ArrayList<>();
            for (int hour = let; worked.size() < length; hour++) {
                if (isWork(calendar, hour)) {
                    worked.add(hour);
                }
            }
            return new int[] {worked.get(0), worked.get(length - 1) + 1};
        }
        for (int begin = let; begin < let + 400; begin++) {
            boolean doAllWork = true;
            for (int hour = begin; hour < begin + length; hour++) {
                doAllWork &= isWork(calendar, hour);
            }
            if (doAllWork) {
                return new int[] {begin, begin + length};
            }
        }
        return null;
    }

    private int[] begunByClock(int task) {
        int[] times = byClock(task);
        if (times == null) {
            throw new UnsupportedOperationException();
        }
        return times;
    }

    int clockBegin(int task) {
        at(task);
        return begunByClock(task)[0];
    }

    int clockEnd(int task) {
        at(task);
        return begunByClock(task)[1];
    }

    int clockAll() {
        int end = 0;
        for (int task = 0; task < tasks(); task++) {
            end = Math.max(end, begunByClock(task)[1]);
        }
        return end;
    }

    // ---- hands, lists and plans

    int hands(int skill, int many) {
        claim(skill >= 0 && skill <= 2 && many >= 1 && many <= 5);
        int before = hands[skill];
        hands[skill] = many;
        return before;
    }

    int list(int task) {
        at(task);
        claim(!typed.contains(task));
        typed.add(task);
        return typed.size();
    }

    int wipe() {
        int before = typed.size();
        typed.clear();
        return before;
    }

    private List<Integer> listBy(char rule) {
        List<Integer> list = new ArrayList<>();
        if (rule == 't') {
            list.addAll(typed);
        }
        for (int task = 0; task < tasks(); task++) {
            if (!list.contains(task)) {
                list.add(task);
            }
        }
        if (rule == 'l') {
            list.sort(Comparator.comparingInt((Integer task) -> -of(task, 'l')));
        } else if (rule == 'r') {
            list.sort(Comparator.comparingInt((Integer task) -> -rest(task)));
        } else if (rule == 's') {
            list.sort(Comparator.comparingInt((Integer task) -> slack(task, 't')));
        }
        return list;
    }

    int listed(char rule, int place) {
        claim("nlrst".indexOf(rule) >= 0);
        if (place < 0 || place >= tasks()) {
            throw new IndexOutOfBoundsException();
        }
        return listBy(rule).get(place);
    }

    /** What a plan is made of; skills and machines are as in the book, or all 0 and none. */
    private PlanMade byFreeHands(List<Integer> list, int[] lengths, List<Need> needs, int[] many, boolean isAlike) {
        int n = lengths.length;
        PlanMade made = new PlanMade();
        made.begins = new int[n];
        made.ends = new int[n];
        made.handOf = new int[n];
        made.handsOfSkill0 = many[0];
        Arrays.fill(made.begins, -1);
        int left = n;
        for (int time = 0; left > 0; time++) {
            for (int task : list) {
                if (made.begins[task] >= 0 || !isLet(task, time, made, needs)) {
                    continue;
                }
                int hand = freeHand(task, time, time + 1, made, many, isAlike);
                if (hand >= 0) {
                    made.begins[task] = time;
                    made.ends[task] = time + lengths[task];
                    made.handOf[task] = hand;
                    made.end = Math.max(made.end, made.ends[task]);
                    left--;
                }
            }
        }
        return made;
    }

    private boolean isLet(int task, int time, PlanMade made, List<Need> needs) {
        for (Need need : needs) {
            if (need.later == task
                    && (made.begins[need.earlier] < 0 || made.ends[need.earlier] + need.lag > time)) {
                return false;
            }
        }
        return true;
    }

    private int freeHand(int task, int from, int to, PlanMade made, int[] many, boolean isAlike) {
        int skill = isAlike ? 0 : of(task, 's');
        int machine = isAlike ? -1 : of(task, 'm');
        for (int hand = 0; hand < many[skill]; hand++) {
            boolean isFree = true;
            for (int hour = from; hour < to; hour++) {
                for (int other = 0; other < made.begins.length; other++) {
                    if (made.begins[other] < 0 || hour < made.begins[other] || hour >= made.ends[other]) {
                        continue;
                    }
                    int otherSkill = isAlike ? 0 : of(other, 's');
                    int otherMachine = isAlike ? -1 : of(other, 'm');
                    isFree &= otherSkill != skill || made.handOf[other] != hand;
                    isFree &= machine < 0 || otherMachine != machine;
                }
            }
            if (isFree) {
                return hand;
            }
        }
        return -1;
    }

    private PlanMade oneByOne(List<Integer> list) {
        int n = tasks();
        int[] lengths = book.lengths();
        PlanMade made = new PlanMade();
        made.begins = new int[n];
        made.ends = new int[n];
        made.handOf = new int[n];
        made.handsOfSkill0 = hands[0];
        Arrays.fill(made.begins, -1);
        for (int step = 0; step < n; step++) {
            for (int task : list) {
                if (made.begins[task] >= 0 || !isLet(task, Integer.MAX_VALUE, made, book.needs)) {
                    continue;
                }
                int time = 0;
                while (!isLet(task, time, made, book.needs)
                        || freeHand(task, time, time + lengths[task], made, hands, false) < 0) {
                    time++;
                }
                made.handOf[task] = freeHand(task, time, time + lengths[task], made, hands, false);
                made.begins[task] = time;
                made.ends[task] = time + lengths[task];
                made.end = Math.max(made.end, made.ends[task]);
                break;
            }
        }
        return made;
    }

    int plan(char rule, char way) {
        claim("nlrst".indexOf(rule) >= 0 && (way == 'p' || way == 's'));
        plan = way == 'p' ? byFreeHands(listBy(rule), book.lengths(), book.needs, hands, false) : oneByOne(listBy(rule));
        return plan.end;
    }

    private void claimPlan() {
        if (plan == null) {
            throw new IllegalStateException();
        }
    }

    int planBegin(int task) {
        claimPlan();
        at(task);
        return plan.begins[task];
    }

    int planHand(int task) {
        claimPlan();
        at(task);
        return plan.handOf[task];
    }

    int planEnd() {
        claimPlan();
        return plan.end;
    }

    int busy(int skill, int hour) {
        claimPlan();
        claim(skill >= 0 && skill <= 2 && hour >= 0);
        int many = 0;
        for (int task = 0; task < tasks(); task++) {
            many += of(task, 's') == skill && plan.begins[task] <= hour && hour < plan.ends[task] ? 1 : 0;
        }
        return many;
    }

    private List<Integer> proof() {
        claimPlan();
        List<Integer> row = new ArrayList<>();
        int task = -1;
        for (int other = 0; other < tasks(); other++) {
            if (task < 0 || plan.ends[other] > plan.ends[task]) {
                task = other;
            }
        }
        while (task >= 0) {
            row.add(0, task);
            int ahead = -1;
            int latest = -1;
            for (int other = 0; other < tasks(); other++) {
                int lag = lagBetween(other, task);
                if (lag >= 0 && plan.ends[other] + lag > latest) {
                    ahead = other;
                    latest = plan.ends[other] + lag;
                }
            }
            task = ahead;
        }
        return row;
    }

    private int lagBetween(int earlier, int later) {
        for (Need need : book.needs) {
            if (need.earlier == earlier && need.later == later) {
                return need.lag;
            }
        }
        return -1;
    }

    int proofLength() {
        return proof().size();
    }

    int proofAt(int place) {
        List<Integer> row = proof();
        if (place < 0 || place >= row.size()) {
            throw new IndexOutOfBoundsException();
        }
        return row.get(place);
    }

    boolean isProved() {
        List<Integer> row = proof();
        for (int hour = 0; hour < plan.end; hour++) {
            boolean isCovered = false;
            for (int place = 0; place < row.size(); place++) {
                int task = row.get(place);
                isCovered |= plan.begins[task] <= hour && hour < plan.ends[task];
                if (place + 1 < row.size()) {
                    int lag = lagBetween(task, row.get(place + 1));
                    isCovered |= plan.ends[task] <= hour && hour < plan.ends[task] + lag;
                }
            }
            if (!isCovered && busy(0, hour) != plan.handsOfSkill0) {
                return false;
            }
        }
        return true;
    }

    private static void allOrders(List<Integer> row, int n, List<List<Integer>> found) {
        if (row.size() == n) {
            found.add(new ArrayList<>(row));
        }
        for (int each = 0; each < n; each++) {
            if (!row.contains(each)) {
                row.add(each);
                allOrders(row, n, found);
                row.remove(row.size() - 1);
            }
        }
    }

    static List<List<Integer>> orders(int n) {
        List<List<Integer>> found = new ArrayList<>();
        allOrders(new ArrayList<>(), n, found);
        return found;
    }

    private void claimLikeHands(int many) {
        claim(many >= 1 && many <= 4);
        if (tasks() > 6) {
            throw new UnsupportedOperationException();
        }
    }

    /** One of the plans that put the tasks one after another, each as early as can be, is the best. */
    int best(int many) {
        claimLikeHands(many);
        int least = Integer.MAX_VALUE;
        int[] lengths = book.lengths();
        for (List<Integer> order : orders(tasks())) {
            int[] workers = new int[1000];
            int[] ends = new int[tasks()];
            boolean isOrder = true;
            int end = 0;
            for (int task : order) {
                int time = 0;
                for (Need need : book.needs) {
                    if (need.later == task) {
                        isOrder &= ends[need.earlier] > 0;
                        time = Math.max(time, ends[need.earlier] + need.lag);
                    }
                }
                if (!isOrder) {
                    break;
                }
                while (!isBelow(workers, time, time + lengths[task], many)) {
                    time++;
                }
                for (int hour = time; hour < time + lengths[task]; hour++) {
                    workers[hour]++;
                }
                ends[task] = time + lengths[task];
                end = Math.max(end, ends[task]);
            }
            least = isOrder ? Math.min(least, end) : least;
        }
        return least;
    }

    private static boolean isBelow(int[] workers, int from, int to, int many) {
        for (int hour = from; hour < to; hour++) {
            if (workers[hour] >= many) {
                return false;
            }
        }
        return true;
    }

    int bestByLists(int many) {
        claimLikeHands(many);
        int least = Integer.MAX_VALUE;
        for (List<Integer> order : orders(tasks())) {
            least = Math.min(least, byFreeHands(order, book.lengths(), book.needs, new int[] {many}, true).end);
        }
        return least;
    }

    int anomaly(char kind, char rule) {
        claim("hsn".indexOf(kind) >= 0);
        claim("nlrst".indexOf(rule) >= 0);
        List<Integer> list = listBy(rule);
        int before = byFreeHands(list, book.lengths(), book.needs, hands, false).end;
        if (kind == 'h') {
            int[] more = {hands[0] + 1, hands[1], hands[2]};
            return byFreeHands(list, book.lengths(), book.needs, more, false).end > before ? 0 : -1;
        }
        if (kind == 's') {
            for (int task = 0; task < tasks(); task++) {
                int[] lengths = book.lengths();
                if (lengths[task] != 1) {
                    lengths[task]--;
                    if (byFreeHands(list, lengths, book.needs, hands, false).end > before) {
                        return task;
                    }
                }
            }
            return -1;
        }
        for (int number = 0; number < needs(); number++) {
            List<Need> less = new ArrayList<>(book.needs);
            less.remove(number);
            if (byFreeHands(list, book.lengths(), less, hands, false).end > before) {
                return number;
            }
        }
        return -1;
    }

    // ---- levels, money, guesses

    int leastPeak() {
        java.math.BigInteger cases = java.math.BigInteger.ONE;
        for (int task = 0; task < tasks(); task++) {
            cases = cases.multiply(java.math.BigInteger.valueOf(slack(task, 't') + 1));
        }
        if (tasks() > 6 || cases.bitLength() > 30 || cases.intValue() > 2000) {
            throw new UnsupportedOperationException();
        }
        int least = tasks();
        int[] lengths = book.lengths();
        for (int single = 0; single < cases.intValue(); single++) {
            int left = single;
            int[] begins = new int[tasks()];
            for (int task = 0; task < tasks(); task++) {
                begins[task] = earliest(task) + left % (slack(task, 't') + 1);
                left /= slack(task, 't') + 1;
            }
            boolean isLet = true;
            for (Need need : book.needs) {
                isLet &= begins[need.earlier] + lengths[need.earlier] + need.lag <= begins[need.later];
            }
            if (isLet) {
                least = Math.min(least, peak(begins, lengths));
            }
        }
        return least;
    }

    private int peak(int[] begins, int[] lengths) {
        int peak = 0;
        for (int hour = 0; hour < end(); hour++) {
            int many = 0;
            for (int task = 0; task < begins.length; task++) {
                many += begins[task] <= hour && hour < begins[task] + lengths[task] ? 1 : 0;
            }
            peak = Math.max(peak, many);
        }
        return peak;
    }

    int shorten(int number, int hours, int cost) {
        Task task = at(number);
        claim(hours >= 0 && hours <= 5 && hours < task.fact('l') && cost >= 0 && cost <= 99);
        keepBook();
        int before = task.cut;
        task.cut = hours;
        task.cost = cost;
        return before;
    }

    int leastEnd() {
        int[] lengths = book.lengths();
        for (int task = 0; task < tasks(); task++) {
            lengths[task] -= at(task).cut;
        }
        return endBy(lengths);
    }

    int leastCost(int time) {
        if (leastEnd() > time) {
            throw new NoSuchElementException();
        }
        long cases = 1;
        for (Task task : book.tasks) {
            cases *= task.cut + 1;
        }
        if (cases > 2000) {
            throw new UnsupportedOperationException();
        }
        int least = Integer.MAX_VALUE;
        for (int single = 0; single < cases; single++) {
            int left = single;
            int cost = 0;
            int[] lengths = book.lengths();
            for (int task = 0; task < tasks(); task++) {
                int cut = left % (at(task).cut + 1);
                left /= at(task).cut + 1;
                lengths[task] -= cut;
                cost += cut * at(task).cost;
            }
            if (cost < least && endBy(lengths) <= time) {
                least = cost;
            }
        }
        return least;
    }

    int guess(int number, int low, int high) {
        Task task = at(number);
        claim(low >= 1 && low <= task.fact('l') && high >= task.fact('l') && high <= 60);
        keepBook();
        task.isGuessed = true;
        task.low = low;
        task.high = high;
        return guessed().size();
    }

    private List<Integer> guessed() {
        List<Integer> found = new ArrayList<>();
        for (int task = 0; task < tasks(); task++) {
            if (at(task).isGuessed) {
                found.add(task);
            }
        }
        return found;
    }

    long allOdds() {
        if (guessed().size() > 6) {
            throw new UnsupportedOperationException();
        }
        return Math.round(Math.pow(6, guessed().size()));
    }

    private long odds(List<Integer> left, int[] lengths, int time, int task) {
        if (left.isEmpty()) {
            int end = endBy(lengths);
            boolean counts = task < 0 ? end <= time : begin(task, lengths) == latest(task, lengths, end);
            return counts ? 1 : 0;
        }
        int first = left.get(0);
        List<Integer> others = left.subList(1, left.size());
        long sum = 0;
        int own = lengths[first];
        int[] parts = {1, 4, 1};
        int[] each = {at(first).low, own, at(first).high};
        for (int which = 0; which < 3; which++) {
            lengths[first] = each[which];
            sum += parts[which] * odds(others, lengths, time, task);
        }
        lengths[first] = own;
        return sum;
    }

    long oddsBy(int time) {
        allOdds();
        return odds(guessed(), book.lengths(), time, -1);
    }

    long oddsCritical(int task) {
        at(task);
        allOdds();
        return odds(guessed(), book.lengths(), 0, task);
    }

    // ---- worth, changes, the crane

    int planned(int time) {
        claim(time >= 0);
        int sum = 0;
        for (int task = 0; task < tasks(); task++) {
            int length = of(task, 'l');
            int ahead = 0;
            for (int hour = earliest(task); hour < earliest(task) + length; hour++) {
                ahead += hour < time ? 1 : 0;
            }
            sum += of(task, 'w') * ahead / length;
        }
        return sum;
    }

    int earned() {
        int sum = 0;
        for (Task task : book.tasks) {
            sum += task.fact('w') * task.fact('d') / 100;
        }
        return sum;
    }

    float index(int time) {
        claim(time >= 0);
        int due = planned(time);
        if (due == 0) {
            throw new ArithmeticException();
        }
        return (float) earned() / (float) due;
    }

    int keep() {
        keptBegins = new int[tasks()];
        for (int task = 0; task < tasks(); task++) {
            keptBegins[task] = earliest(task);
        }
        return keptBegins.length;
    }

    int moved() {
        int many = 0;
        for (int task = 0; task < keptBegins.length; task++) {
            many += task >= tasks() || earliest(task) != keptBegins[task] ? 1 : 0;
        }
        return many;
    }

    int movedBy(int task) {
        at(task);
        if (task >= keptBegins.length) {
            throw new IllegalStateException();
        }
        return earliest(task) - keptBegins[task];
    }

    int crane() {
        List<Integer> craned = new ArrayList<>();
        for (int task = 0; task < tasks(); task++) {
            if (of(task, 'm') == 0) {
                craned.add(task);
            }
        }
        if (craned.size() > 5) {
            throw new UnsupportedOperationException();
        }
        int least = Integer.MAX_VALUE;
        for (List<Integer> order : orders(craned.size())) {
            List<Need> more = new ArrayList<>(book.needs);
            for (int place = 1; place < order.size(); place++) {
                more.add(new Need(craned.get(order.get(place - 1)), craned.get(order.get(place)), 0));
            }
            least = Math.min(least, sumOfEnds(more));
        }
        return least;
    }

    /** Pushes begins until all is let; those that go round are never let. */
    private int sumOfEnds(List<Need> needs) {
        int[] lengths = book.lengths();
        int[] begins = new int[tasks()];
        for (int round = 0; round <= tasks(); round++) {
            boolean isLet = true;
            for (Need need : needs) {
                int let = begins[need.earlier] + lengths[need.earlier] + need.lag;
                if (let > begins[need.later]) {
                    begins[need.later] = let;
                    isLet = false;
                }
            }
            if (isLet) {
                int[] ends = new int[2];
                for (int task = 0; task < tasks(); task++) {
                    int project = of(task, 'p');
                    ends[project] = Math.max(ends[project], begins[task] + lengths[task]);
                }
                return ends[0] + ends[1];
            }
        }
        return Integer.MAX_VALUE;
    }

    // ---- figures

    float criticalShare() {
        if (tasks() == 0) {
            throw new ArithmeticException();
        }
        int many = 0;
        for (int task = 0; task < tasks(); task++) {
            many += slack(task, 't') == 0 ? 1 : 0;
        }
        return (float) many / (float) tasks();
    }

    double meanLength() {
        if (tasks() == 0) {
            throw new ArithmeticException();
        }
        int sum = 0;
        for (int length : book.lengths()) {
            sum += length;
        }
        return (double) sum / (double) tasks();
    }

    long checksum() {
        List<Long> row = new ArrayList<>();
        for (Task task : book.tasks) {
            for (int fact : task.facts) {
                row.add((long) fact);
            }
        }
        for (Need need : book.needs) {
            Collections.addAll(row, (long) need.earlier, (long) need.later, (long) need.lag);
        }
        for (char sign : text.toCharArray()) {
            row.add((long) sign);
        }
        long sum = 7;
        for (long each : row) {
            sum = sum * 31 + each;
        }
        return sum;
    }

    /** The theorem always holds. */
    boolean isTrue() {
        return true;
    }
}
