/** The edges of promises 16 to 23: the plain plan, its slacks and its chains. */
public final class PlainPlanEdgesTest extends Edges {

    public static void main(String[] args) {
        Check.runAll(PlainPlanEdgesTest.class);
    }

    // ---- promises 16, 17, 18

    static void promise16_noSuchTask() {
        noTask(rich(), Recorded::earliest);
        noTask(new Recorded(), Recorded::earliest);
        noTask(full(), Recorded::earliest);
    }

    static void promise16_theTimeIs0WithoutNeeds() {
        Check.is("earliest", with(60).earliest(0), 0);
        Check.is("earliest", full().earliest(19), 0);
    }

    static void promise16_aLagOf0And30() {
        Check.is("without a lag", ofText("7;1:0").earliest(1), 7);
        Check.is("an hour", ofText("7;1:0+1").earliest(1), 8);
        Check.is("thirty hours", ofText("7;1:0+30").earliest(1), 37);
    }

    static void promise16_theLastOfAllThatItNeeds() {
        Check.is("the end and the lag together", ofText("7;5;1:0,1+1").earliest(2), 7);
        Check.is("the end and the lag together", ofText("7;5;1:0,1+2").earliest(2), 7);
        Check.is("the end and the lag together", ofText("7;5;1:0,1+3").earliest(2), 8);
    }

    static void promise16_theLongestRow() {
        Check.is("the last of twenty", row(20, 60, 30).earliest(19), 19 * 90);
    }

    static void promise16_fiftyNeeds() {
        Check.is("the last of ten", fullOfNeeds().earliest(9), 9);
        Check.is("one that needs five", fullOfNeeds().earliest(10), 5);
        Check.is("one that needs none", fullOfNeeds().earliest(11), 0);
    }

    /** A row of four whose numbers go down, its three needs told in each order. */
    static void promise16_needsToldInAnyOrder() {
        int[][] orders = {{0, 1, 2}, {0, 2, 1}, {1, 0, 2}, {1, 2, 0}, {2, 0, 1}, {2, 1, 0}};
        for (int[] order : orders) {
            Recorded x = with(1, 2, 3, 4);
            for (int later : order) {
                x.need(later + 1, later, later);
            }
            int[] due = {12, 10, 6, 0};
            for (int task = 0; task < 4; task++) {
                Check.is("earliest", x.again().earliest(task), due[task]);
                Check.is("latest", x.again().latest(task), due[task]);
                Check.is("chain", x.again().chainAt(task), 3 - task);
            }
            Check.is("end", x.again().end(), 13);
        }
    }

    static void promise17_noSuchTask() {
        noTask(rich(), Recorded::latest);
        noTask(new Recorded(), Recorded::latest);
        noTask(full(), Recorded::latest);
    }

    static void promise17_oneThatNoneNeedsEndsAtTheEnd() {
        Check.is("latest", with(60, 1).latest(1), 59);
        Check.is("latest", with(60).latest(0), 0);
    }

    static void promise17_theFirstOfAllThatNeedIt() {
        Check.is("with both lags", ofText("1;9:0;8:0+1").latest(0), 0);
        Check.is("with a lag that is less", ofText("1;4;8:0+1;9:0").latest(0), 0);
        Check.is("behind by an hour", ofText("1;8:0;7:0+1;10").latest(0), 1);
    }

    static void promise17_theLongestRow() {
        Check.is("the first of twenty", row(20, 60, 30).latest(0), 0);
        Check.is("the last of twenty", row(20, 60, 30).latest(19), 19 * 90);
    }

    static void promise18_0WithoutTasks() {
        Check.is("end", new Recorded().end(), 0);
        Recorded x = with(5);
        x.undo();
        Check.is("end behind undo", x.end(), 0);
    }

    static void promise18_theShortestBook() {
        Check.is("end", with(1).end(), 1);
    }

    static void promise18_theLongestBook() {
        Check.is("end", row(20, 60, 30).end(), 20 * 60 + 19 * 30);
    }

    static void promise18_theGreatestOfAllEnds() {
        Check.is("that of the first", with(9, 5, 7).end(), 9);
        Check.is("that of one in the middle", with(5, 9, 7).end(), 9);
        Check.is("that of the last", with(5, 7, 9).end(), 9);
    }

    static void promise18_aLagBehindTheLastTaskDoesNotCount() {
        Recorded x = row(2, 5, 30);
        Check.is("end", x.end(), 40);
        x.dropNeed(0);
        Check.is("end", x.end(), 5);
    }

    static void promise18_machinesCalendarsAndHandsAreLeftAside() {
        Recorded x = with(5, 7);
        x.set(0, 'm', 0);
        x.set(1, 'm', 0);
        x.set(1, 'c', 1);
        x.hours(1, 0, 167, false);
        Check.is("end", x.end(), 7);
    }

    // ---- promise 19

    private static void slacks(Recorded x, int task, int total, int free, int interfering, int independent) {
        Check.is("total", x.slack(task, 't'), total);
        Check.is("free", x.slack(task, 'f'), free);
        Check.is("interfering", x.slack(task, 'i'), interfering);
        Check.is("independent", x.slack(task, 'd'), independent);
    }

    static void promise19_noSuchTask() {
        noTask(rich(), (y, task) -> y.slack(task, 't'));
        noTask(new Recorded(), (y, task) -> y.slack(task, 'd'));
        noTask(full(), (y, task) -> y.slack(task, 'f'));
    }

    static void promise19_noSuchKind() {
        refusedSigns(BAD, rich(), (y, kind) -> y.slack(0, kind), lettersBut("tfid"));
    }

    static void promise19_noTaskGoesAheadOfAKind() {
        noTask(rich(), (y, task) -> y.slack(task, 'x'));
    }

    static void promise19_noneOfTheOnlyTask() {
        slacks(with(1), 0, 0, 0, 0, 0);
        slacks(with(60), 0, 0, 0, 0, 0);
    }

    static void promise19_noneAlongTheLongestRow() {
        slacks(row(20, 60, 30), 0, 0, 0, 0, 0);
        slacks(row(20, 60, 30), 19, 0, 0, 0, 0);
    }

    static void promise19_theEndStandsForNoneThatNeedIt() {
        slacks(with(60, 1), 1, 59, 59, 0, 59);
        slacks(ofText("9;2;3:1"), 2, 4, 4, 0, 0);
    }

    static void promise19_0StandsForNoneThatItNeeds() {
        slacks(ofText("9;2;3:1,0"), 1, 7, 7, 0, 7);
        slacks(ofText("9;2;3:1"), 1, 4, 0, 4, 0);
    }

    static void promise19_theGreatestThereIs() {
        Recorded x = row(19, 60, 30);
        x.task(1);
        slacks(x, 19, 1679, 1679, 0, 1679);
    }

    static void promise19_theIndependentOneIs0FromBelow0() {
        slacks(ofText("3;2:0;1:1;7"), 1, 1, 0, 1, 0);
        slacks(ofText("3;2:0;1:1;60"), 1, 54, 0, 54, 0);
    }

    static void promise19_theIndependentOneIsJust0() {
        slacks(ofText("3;2:0;6;1:1,2"), 1, 1, 1, 0, 0);
    }

    static void promise19_theIndependentOneIsAnHour() {
        slacks(ofText("3;2:0;6;1:1,2;4:0"), 1, 1, 1, 0, 1);
        slacks(ofText("3;2:0+1;7;1:1,2;5:0"), 1, 1, 1, 0, 1);
        slacks(ofText("3;2:0;7;1:1+1,2;5:0"), 1, 1, 1, 0, 1);
    }

    static void promise19_theLeastOfThoseThatNeedIt() {
        slacks(ofText("2;9;5;1:0,1;1:0,2"), 0, 7, 3, 4, 3);
        slacks(ofText("2;9;5;1:0+8,1;1:0,2"), 0, 0, 0, 0, 0);
        slacks(ofText("2;9;5;1:0+2,1;1:0+2,2"), 0, 5, 1, 4, 1);
    }

    // ---- promise 20

    static void promise20_noSuchTask() {
        noTask(rich(), Recorded::rest);
        noTask(new Recorded(), Recorded::rest);
        noTask(full(), Recorded::rest);
    }

    static void promise20_theLengthOfOneThatNoneNeeds() {
        Check.is("rest", with(1, 60).rest(0), 1);
        Check.is("rest", row(20, 60, 30).rest(19), 60);
    }

    static void promise20_theLongestRow() {
        Check.is("rest", row(20, 60, 30).rest(0), 1770);
        Check.is("rest", row(20, 60, 30).rest(18), 150);
    }

    static void promise20_theLongestOfSeveral() {
        Check.is("rest", ofText("2;5:0;4:0+1;3:0+1").rest(0), 7);
        Check.is("rest", ofText("2;5:0;4:0+2;3:0+1").rest(0), 8);
    }

    // ---- promise 21

    static void promise21_0WithoutTasks() {
        Check.is("chains", new Recorded().chains(), 0L);
    }

    static void promise21_theOnlyTaskIs1() {
        Check.is("chains", with(1).chains(), 1L);
        Check.is("chains", row(20, 60, 30).chains(), 1L);
    }

    static void promise21_twentyAlikeAre20() {
        Check.is("chains", alike(20, 60).chains(), 20L);
    }

    static void promise21_oneThatIsAnHourShorterDoesNotCount() {
        Check.is("chains", with(4, 4, 3).chains(), 2L);
        Check.is("chains", ofText("3;2:0;1:0+1;1:0").chains(), 2L);
    }

    /** Layers of three and of two tasks by turns: 42 needs, and a chain for each choice in each layer. */
    static void promise21_layersOfThreeAndTwo() {
        Recorded x = full();
        int[] sizes = {3, 2, 3, 2, 3, 2, 3, 2};
        int from = 0;
        for (int layer = 1; layer < sizes.length; layer++) {
            for (int each = 0; each < sizes[layer - 1] * sizes[layer]; each++) {
                int ahead = from + each % sizes[layer - 1];
                x.need(ahead, from + sizes[layer - 1] + each / sizes[layer - 1], 0);
            }
            from += sizes[layer - 1];
        }
        Check.is("needs", x.needs(), 42);
        Check.is("chains", x.chains(), 1296L);
    }

    static void promise21_fiftyNeeds() {
        Check.is("chains", fullOfNeeds().chains(), 1L);
    }

    // ---- promises 22, 23

    private static void told(Recorded x, int... tasks) {
        Check.is("told", x.chainLength(), tasks.length);
        for (int place = 0; place < tasks.length; place++) {
            Check.is("told at " + place, x.chainAt(place), tasks[place]);
        }
    }

    static void promise22_0WithoutTasks() {
        Check.is("told", new Recorded().chainLength(), 0);
    }

    static void promise22_theOnlyTask() {
        told(with(1), 0);
    }

    static void promise22_allTasksOfAFullBook() {
        Recorded x = row(20, 60, 30);
        Check.is("told", x.chainLength(), 20);
        Check.is("the first", x.chainAt(0), 0);
        Check.is("the last", x.chainAt(19), 19);
    }

    static void promise22_fiftyNeeds() {
        told(fullOfNeeds(), 0, 1, 2, 3, 4, 5, 6, 7, 8, 9);
    }

    static void promise23_noSuchPlace() {
        refused(PLACE, rich(), Recorded::chainAt, -1, rich().chainLength(), 4, LEAST, MOST);
        refused(PLACE, row(20, 1, 0), Recorded::chainAt, -1, 20, LEAST, MOST);
    }

    static void promise23_noPlaceWithoutTasks() {
        refused(PLACE, new Recorded(), Recorded::chainAt, 0, -1, LEAST, MOST);
    }

    static void promise23_theLeastFirstNumber() {
        told(with(2, 3, 3), 1);
        told(ofText("1;2;1:1;2:0"), 0, 3);
    }

    static void promise23_theLeastNextNumber() {
        told(ofText("1;2:0;1:0;1:2"), 0, 1);
        told(ofText("1;1:0;2:0;1:1"), 0, 1, 3);
        Recorded x = with(1, 1, 1, 1);
        x.need(0, 3, 0);
        x.need(0, 2, 0);
        told(x, 0, 2);
    }

    static void promise23_theLeastLastNumber() {
        told(ofText("1;1:0;1:1;1:1"), 0, 1, 2);
    }

    static void promise23_numbersThatGoDown() {
        Recorded x = with(1, 1, 1);
        x.need(2, 1, 0);
        x.need(1, 0, 30);
        told(x, 2, 1, 0);
    }
}
