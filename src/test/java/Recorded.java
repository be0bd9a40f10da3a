import java.util.ArrayList;
import java.util.List;
import java.util.function.Function;

/**
 * The program with a list of all calls it had: an object like it can be made anew, and asked or changed in
 * its place. It refuses what goes beyond the calls that the document promises.
 */
final class Recorded {

    static final int MOST_CALLS = 512;

    private final CriticalweekPlans plans = new CriticalweekPlans();
    private final List<Function<CriticalweekPlans, Object>> calls = new ArrayList<>();

    private <T> T call(Function<CriticalweekPlans, T> each) {
        if (calls.size() >= MOST_CALLS) {
            throw new AssertionError("an object is used for 512 calls at most");
        }
        calls.add(each::apply);
        return each.apply(plans);
    }

    /** Another object that had the same calls, the refused ones too. */
    Recorded again() {
        Recorded other = new Recorded();
        for (Function<CriticalweekPlans, Object> each : calls) {
            Check.answer(() -> other.call(each));
        }
        return other;
    }

    int task(int length) {
        return call(x -> x.task(length));
    }

    int set(int task, char what, int number) {
        return call(x -> x.set(task, what, number));
    }

    int of(int task, char what) {
        return call(x -> x.of(task, what));
    }

    int tasks() {
        return call(x -> x.tasks());
    }

    int need(int earlier, int later, int lag) {
        return call(x -> x.need(earlier, later, lag));
    }

    int dropNeed(int number) {
        return call(x -> x.dropNeed(number));
    }

    int needs() {
        return call(x -> x.needs());
    }

    int needAt(int number, char what) {
        return call(x -> x.needAt(number, what));
    }

    int ring(int earlier, int later) {
        return call(x -> x.ring(earlier, later));
    }

    int undo() {
        return call(x -> x.undo());
    }

    int type(char sign) {
        return call(x -> x.type(sign));
    }

    int erase() {
        return call(x -> x.erase());
    }

    char signAt(int place) {
        return call(x -> x.signAt(place));
    }

    int read() {
        return call(x -> x.read());
    }

    int earliest(int task) {
        return call(x -> x.earliest(task));
    }

    int latest(int task) {
        return call(x -> x.latest(task));
    }

    int end() {
        return call(x -> x.end());
    }

    int slack(int task, char kind) {
        return call(x -> x.slack(task, kind));
    }

    int rest(int task) {
        return call(x -> x.rest(task));
    }

    long chains() {
        return call(x -> x.chains());
    }

    int chainLength() {
        return call(x -> x.chainLength());
    }

    int chainAt(int place) {
        return call(x -> x.chainAt(place));
    }

    int hours(int calendar, int from, int to, boolean isWork) {
        return call(x -> x.hours(calendar, from, to, isWork));
    }

    boolean isWork(int calendar, int hour) {
        return call(x -> x.isWork(calendar, hour));
    }

    int clockBegin(int task) {
        return call(x -> x.clockBegin(task));
    }

    int clockEnd(int task) {
        return call(x -> x.clockEnd(task));
    }

    int clockAll() {
        return call(x -> x.clockAll());
    }

    int hands(int skill, int many) {
        return call(x -> x.hands(skill, many));
    }

    int list(int task) {
        return call(x -> x.list(task));
    }

    int wipe() {
        return call(x -> x.wipe());
    }

    int listed(char rule, int place) {
        return call(x -> x.listed(rule, place));
    }

    int plan(char rule, char way) {
        return call(x -> x.plan(rule, way));
    }

    int planBegin(int task) {
        return call(x -> x.planBegin(task));
    }

    int planHand(int task) {
        return call(x -> x.planHand(task));
    }

    int planEnd() {
        return call(x -> x.planEnd());
    }

    int busy(int skill, int hour) {
        return call(x -> x.busy(skill, hour));
    }

    int proofLength() {
        return call(x -> x.proofLength());
    }

    int proofAt(int place) {
        return call(x -> x.proofAt(place));
    }

    boolean isProved() {
        return call(x -> x.isProved());
    }

    int best(int hands) {
        return call(x -> x.best(hands));
    }

    int bestByLists(int hands) {
        return call(x -> x.bestByLists(hands));
    }

    int anomaly(char kind, char rule) {
        return call(x -> x.anomaly(kind, rule));
    }

    int leastPeak() {
        return call(x -> x.leastPeak());
    }

    int shorten(int task, int hours, int cost) {
        return call(x -> x.shorten(task, hours, cost));
    }

    int leastEnd() {
        return call(x -> x.leastEnd());
    }

    int leastCost(int time) {
        return call(x -> x.leastCost(time));
    }

    int guess(int task, int low, int high) {
        return call(x -> x.guess(task, low, high));
    }

    long allOdds() {
        return call(x -> x.allOdds());
    }

    long oddsBy(int time) {
        return call(x -> x.oddsBy(time));
    }

    long oddsCritical(int task) {
        return call(x -> x.oddsCritical(task));
    }

    int planned(int time) {
        return call(x -> x.planned(time));
    }

    int earned() {
        return call(x -> x.earned());
    }

    float index(int time) {
        return call(x -> x.index(time));
    }

    int keep() {
        return call(x -> x.keep());
    }

    int moved() {
        return call(x -> x.moved());
    }

    int movedBy(int task) {
        return call(x -> x.movedBy(task));
    }

    int crane() {
        return call(x -> x.crane());
    }

    float criticalShare() {
        return call(x -> x.criticalShare());
    }

    double meanLength() {
        return call(x -> x.meanLength());
    }

    long checksum() {
        return call(x -> x.checksum());
    }

    boolean isTrue() {
        return call(x -> x.isTrue());
    }
}
