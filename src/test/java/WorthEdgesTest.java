import java.math.BigInteger;

/** The edges of promises 52 to 62: worth, changes, the crane and the figures. */
public final class WorthEdgesTest extends Edges {

    public static void main(String[] args) {
        Check.runAll(WorthEdgesTest.class);
    }

    private static Recorded worth(Recorded x, int... worths) {
        for (int task = 0; task < worths.length; task++) {
            x.set(task, 'w', worths[task]);
        }
        return x;
    }

    private static Recorded richest() {
        Recorded x = row(20, 60, 30);
        for (int task = 0; task < 20; task++) {
            x.set(task, 'w', 9999);
            x.set(task, 'd', 100);
        }
        return x;
    }

    // ---- promise 52

    static void promise52_aTimeBelow0IsRefused() {
        refused(BAD, rich(), Recorded::planned, -1, LEAST);
        refused(BAD, new Recorded(), Recorded::planned, -1, LEAST);
    }

    static void promise52_nothingByTheTime0() {
        Check.is("planned", richest().planned(0), 0);
        Check.is("without tasks", new Recorded().planned(0), 0);
        Check.is("without tasks", new Recorded().planned(MOST), 0);
    }

    static void promise52_allByTheEndAndTheGreatestTime() {
        Check.is("by the end", richest().planned(1770), 199980);
        Check.is("an hour ahead of it", richest().planned(1769), 199980 - 9999 + 9999 * 59 / 60);
        Check.is("by the greatest time", richest().planned(MOST), 199980);
    }

    static void promise52_justTheBeginAndTheEndOfATask() {
        Recorded x = worth(ofText("2;4:0+1"), 0, 400);
        int[] due = {0, 0, 0, 0, 100, 200, 300, 400, 400};
        for (int time = 0; time < due.length; time++) {
            Check.is("planned by " + time, x.planned(time), due[time]);
        }
    }

    static void promise52_eachIsCut() {
        Recorded x = worth(with(2, 2), 1, 1);
        Check.is("half of 1, twice", x.planned(1), 0);
        Check.is("all", x.planned(2), 2);
        Recorded last = worth(with(60), 1);
        Check.is("59 of 60", last.planned(59), 0);
        Check.is("60 of 60", last.planned(60), 1);
        Check.is("two thirds of 10", worth(with(3), 10).planned(2), 6);
    }

    static void promise52_withoutWorth() {
        Check.is("planned", with(5).planned(5), 0);
    }

    // ---- promise 53

    static void promise53_0WithoutTasks() {
        Check.is("earned", new Recorded().earned(), 0);
    }

    static void promise53_nothingIsDone() {
        Check.is("earned", worth(full(), 9999, 9999).earned(), 0);
    }

    static void promise53_allIsDone() {
        Check.is("earned", richest().earned(), 199980);
    }

    static void promise53_eachIsCut() {
        Recorded x = worth(with(1, 1), 1, 1);
        x.set(0, 'd', 99);
        x.set(1, 'd', 99);
        Check.is("99 of 100, twice", x.earned(), 0);
        x.set(1, 'd', 100);
        Check.is("one is done", x.earned(), 1);
        Recorded most = worth(with(1), 9999);
        most.set(0, 'd', 99);
        Check.is("99 of 100", most.earned(), 9899);
        most.set(0, 'd', 1);
        Check.is("1 of 100", most.earned(), 99);
    }

    // ---- promise 54

    static void promise54_aTimeBelow0IsRefused() {
        refused(BAD, richest(), (y, time) -> y.index(time), -1, LEAST);
    }

    static void promise54_theTimeGoesAheadOfNothingPlanned() {
        refused(BAD, new Recorded(), (y, time) -> y.index(time), -1, LEAST);
        refused(BAD, with(5), (y, time) -> y.index(time), -1, LEAST);
    }

    static void promise54_nothingIsPlannedWithoutTasks() {
        refused(RATIO, new Recorded(), (y, time) -> y.index(time), 0, 1, MOST);
    }

    static void promise54_nothingIsPlannedWithoutWorth() {
        refused(RATIO, with(5), (y, time) -> y.index(time), 0, 5, MOST);
    }

    static void promise54_nothingIsPlannedByTheTime0() {
        refused(RATIO, richest(), (y, time) -> y.index(time), 0);
        Recorded x = worth(ofText("2;4:0+1"), 0, 400);
        x.set(1, 'd', 50);
        refused(RATIO, x, (y, time) -> y.index(time), 3);
        Check.is("an hour later", x.index(4), 2.0f);
    }

    static void promise54_theGreatestTime() {
        Check.is("index", richest().index(MOST), 1.0f);
    }

    static void promise54_nothingIsDone() {
        Check.is("index", worth(with(1), 9999).index(1), 0.0f);
    }

    static void promise54_bothAreFloats() {
        Recorded x = worth(with(1), 3);
        x.set(0, 'd', 67);
        Check.is("two thirds", x.index(1), 2.0f / 3.0f);
        Recorded most = worth(alike(20, 1), 9999, 9998, 9997, 9996, 9995, 9994, 9993, 9992, 9991, 9990);
        most.set(0, 'd', 33);
        Check.is("great numbers", most.index(1), 3299.0f / 99945.0f);
    }

    // ---- promise 55

    static void promise55_0WithoutTasks() {
        Check.is("kept", new Recorded().keep(), 0);
    }

    static void promise55_all20() {
        Check.is("kept", full().keep(), 20);
    }

    static void promise55_inPlaceOfThoseThatWereKept() {
        Recorded x = row(3, 5, 0);
        Check.is("kept", x.keep(), 3);
        readText(x, "7");
        Check.is("kept", x.keep(), 1);
        Check.is("moved", x.moved(), 0);
        readText(x, "1;1:0;1:1");
        Check.fails(STATE, x, y -> y.movedBy(1));
        Check.is("kept", x.keep(), 3);
        Check.is("by", x.movedBy(2), 0);
    }

    static void promise55_noneInPlaceOfThoseThatWereKept() {
        Recorded x = with(5);
        x.keep();
        x.undo();
        Check.is("kept", x.keep(), 0);
        Check.is("moved", x.moved(), 0);
        x.task(5);
        Check.fails(STATE, x, y -> y.movedBy(0));
    }

    // ---- promise 56

    static void promise56_noneIsKept() {
        Check.is("without tasks", new Recorded().moved(), 0);
        Check.is("with tasks", row(20, 60, 30).moved(), 0);
    }

    static void promise56_noneHasAnotherOne() {
        Recorded x = row(20, 60, 30);
        x.keep();
        Check.is("moved", x.moved(), 0);
    }

    static void promise56_allButTheFirstHaveAnotherOne() {
        Recorded x = row(20, 59, 30);
        x.keep();
        x.set(0, 'l', 60);
        Check.is("an hour later", x.moved(), 19);
        x.set(0, 'l', 58);
        Check.is("an hour earlier", x.moved(), 19);
        x.set(0, 'l', 59);
        Check.is("back again", x.moved(), 0);
    }

    static void promise56_allAreNotThere() {
        Recorded x = alike(10, 1);
        x.keep();
        for (int left = 9; left >= 0; left--) {
            x.undo();
            Check.is("moved", x.moved(), 10 - left);
        }
    }

    static void promise56_newTasksDoNotCount() {
        Recorded x = with(1);
        x.keep();
        x.task(1);
        Check.is("moved", x.moved(), 0);
    }

    // ---- promise 57

    static void promise57_noSuchTask() {
        noTask(rich(), Recorded::movedBy);
        noTask(new Recorded(), Recorded::movedBy);
        Recorded x = full();
        x.keep();
        noTask(x, Recorded::movedBy);
    }

    static void promise57_noneIsKept() {
        refused(STATE, full(), Recorded::movedBy, 0, 19);
    }

    static void promise57_noneIsKeptOfANewTask() {
        Recorded x = with(1, 1);
        x.keep();
        x.task(1);
        Check.is("the last that is kept", x.movedBy(1), 0);
        refused(STATE, x, Recorded::movedBy, 2);
    }

    static void promise57_noTaskGoesAheadOfNoneKept() {
        noTask(full(), Recorded::movedBy);
        Recorded x = with(1, 1);
        x.keep();
        x.undo();
        refused(NONE, x, Recorded::movedBy, 1, 2);
    }

    static void promise57_noneIsKeptOfTheEmptyBook() {
        Recorded x = new Recorded();
        x.keep();
        x.task(1);
        refused(STATE, x, Recorded::movedBy, 0);
    }

    static void promise57_earlierIsBelow0() {
        Recorded x = row(20, 60, 30);
        x.keep();
        Check.is("by", x.movedBy(19), 0);
        x.set(0, 'l', 59);
        Check.is("an hour earlier", x.movedBy(19), -1);
        readText(x, "1" + ";1".repeat(19));
        Check.is("at the begin", x.movedBy(19), -1710);
        Check.is("the first", x.movedBy(0), 0);
    }

    static void promise57_laterIsAbove0() {
        Recorded x = row(2, 59, 29);
        x.keep();
        x.set(0, 'l', 60);
        Check.is("an hour later", x.movedBy(1), 1);
    }

    // ---- promise 58

    private static Recorded craned(int many, int length) {
        Recorded x = alike(many, length);
        for (int task = 0; task < many; task++) {
            x.set(task, 'm', 0);
        }
        return x;
    }

    static void promise58_0WithoutTasks() {
        Check.is("crane", new Recorded().crane(), 0);
    }

    static void promise58_0ForAProjectWithoutTasks() {
        Recorded x = craned(2, 7);
        Check.is("the project 0 alone", x.crane(), 14);
        x.set(0, 'p', 1);
        Check.is("both", x.crane(), 21);
        x.set(1, 'p', 1);
        Check.is("the project 1 alone", x.crane(), 14);
    }

    static void promise58_noneOfTheMachine0() {
        Recorded x = alike(20, 60);
        for (int task = 0; task < 20; task++) {
            x.set(task, 'm', task % 2 + 1);
        }
        Check.is("crane", x.crane(), 60);
    }

    static void promise58_fiveOfTheMachine0() {
        Recorded x = craned(5, 60);
        Check.is("one project", x.crane(), 300);
        x.set(4, 'p', 1);
        Check.is("the last one first", x.crane(), 360);
        Recorded more = alike(20, 60);
        for (int task = 15; task < 20; task++) {
            more.set(task, 'm', 0);
        }
        Check.is("five of twenty", more.crane(), 300);
    }

    static void promise58_moreThan5AreRefused() {
        Check.fails(NEVER, craned(6, 1), y -> y.crane());
        Check.fails(NEVER, craned(20, 1), y -> y.crane());
    }

    /** The project of fewer hours goes first: all hours once, and those once more. */
    static void promise58_fiveInAllProjects() {
        for (int projects = 0; projects < 32; projects++) {
            Recorded x = with(1, 2, 3, 4, 5);
            int hours = 0;
            for (int task = 0; task < 5; task++) {
                x.set(task, 'm', 0);
                x.set(task, 'p', projects >> task & 1);
                hours += (projects >> task & 1) * (task + 1);
            }
            Check.is("projects " + projects, x.crane(), 15 + Math.min(hours, 15 - hours));
        }
    }

    static void promise58_anotherMachineNow() {
        Recorded x = craned(2, 7);
        Check.is("crane", x.crane(), 14);
        x.set(0, 'm', 1);
        Check.is("one of the machine 0", x.crane(), 7);
        x.undo();
        Check.is("two of the machine 0", x.crane(), 14);
    }

    static void promise58_needsAmongThem() {
        Recorded down = craned(3, 2);
        down.need(2, 1, 0);
        down.need(1, 0, 3);
        Check.is("numbers that go down", down.crane(), 9);
        Recorded far = ofText("2;1:0;2:1;3");
        far.set(0, 'm', 0);
        far.set(2, 'm', 0);
        far.set(3, 'm', 0);
        Check.is("by a task between them", far.crane(), 7);
        far.set(3, 'l', 1);
        Check.is("an hour between them", far.crane(), 5);
    }

    static void promise58_ofJustTheLengthsOneBehindAnother() {
        Recorded x = ofText("3;4:0;2");
        x.set(1, 'm', 0);
        x.set(2, 'm', 0);
        Check.is("ahead of it by an hour", x.crane(), 7);
        x.set(2, 'l', 3);
        Check.is("just ahead of it", x.crane(), 7);
        x.set(2, 'l', 4);
        Check.is("an hour too long", x.crane(), 8);
    }

    // ---- promises 59, 60

    static void promise59_withoutTasks() {
        Check.fails(RATIO, new Recorded(), y -> y.criticalShare());
        Recorded x = with(1);
        x.undo();
        Check.fails(RATIO, x, y -> y.criticalShare());
    }

    static void promise59_all() {
        Check.is("the only one", with(1).criticalShare(), 1.0f);
        Check.is("all of twenty", row(20, 60, 30).criticalShare(), 1.0f);
    }

    static void promise59_oneOfTwenty() {
        Recorded x = full();
        x.set(19, 'l', 2);
        Check.is("share", x.criticalShare(), 1.0f / 20.0f);
    }

    static void promise59_anHourOfSlackIsNotCritical() {
        Check.is("share", with(5, 4, 5).criticalShare(), 2.0f / 3.0f);
    }

    static void promise60_withoutTasks() {
        Check.fails(RATIO, new Recorded(), y -> y.meanLength());
        Recorded x = with(1);
        x.undo();
        Check.fails(RATIO, x, y -> y.meanLength());
    }

    static void promise60_theLeastAndTheGreatest() {
        Check.is("mean", full().meanLength(), 1.0);
        Check.is("mean", alike(20, 60).meanLength(), 60.0);
    }

    static void promise60_bothAreDoubles() {
        Check.is("mean", with(1, 1, 2).meanLength(), 4.0 / 3.0);
        Check.is("mean", with(60, 1).meanLength(), 30.5);
    }

    // ---- promise 61

    /** The sum without an end, taken back to the numbers that a long has. */
    private static long sumOf(Recorded on) {
        Recorded x = on.again();
        BigInteger sum = BigInteger.valueOf(7);
        int tasks = x.tasks();
        for (int task = 0; task < tasks; task++) {
            for (char letter : "lsmcpzwd".toCharArray()) {
                sum = sum.multiply(BigInteger.valueOf(31)).add(BigInteger.valueOf(x.of(task, letter)));
            }
        }
        x = on.again();
        int needs = x.needs();
        for (int number = 0; number < needs; number++) {
            for (char letter : "elg".toCharArray()) {
                sum = sum.multiply(BigInteger.valueOf(31)).add(BigInteger.valueOf(x.needAt(number, letter)));
            }
        }
        int signs = on.again().erase();
        for (int place = 0; place < signs; place++) {
            sum = sum.multiply(BigInteger.valueOf(31)).add(BigInteger.valueOf(on.again().signAt(place)));
        }
        return sum.longValue();
    }

    static void promise61_7AtFirst() {
        Check.is("sum", new Recorded().checksum(), 7L);
    }

    static void promise61_noMachineCountsAs1Less() {
        long due = 7;
        for (int each : new int[] {9, 0, -1, 0, 0, 0, 0, 0}) {
            due = due * 31 + each;
        }
        Check.is("sum", with(9).checksum(), due);
    }

    static void promise61_aSumThatGoesRound() {
        Recorded x = fullOfNeeds();
        for (int task = 12; task < 20; task++) {
            x.task(60);
        }
        x.set(0, 'w', 9999);
        typeAll(x, "~".repeat(80));
        Check.is("sum", x.checksum(), sumOf(x));
        boolean isBelow0 = false;
        for (int worth = 1; worth <= 9; worth++) {
            x.set(1, 'w', worth * 1111);
            Check.is("sum", x.checksum(), sumOf(x));
            isBelow0 |= x.checksum() < 0;
        }
        Check.isTrue("some sum is below 0", isBelow0);
    }

    static void promise61_allOfARichBook() {
        Recorded x = rich();
        Check.is("sum", x.checksum(), sumOf(x));
        x.erase();
        Check.is("sum without the text", x.checksum(), sumOf(x));
    }

    static void promise61_nothingElseCounts() {
        Recorded x = with(9, 9);
        long before = x.checksum();
        x.shorten(0, 5, 99);
        x.guess(0, 6, 60);
        x.hands(0, 5);
        x.hours(0, 0, 5, false);
        x.list(1);
        x.keep();
        x.plan('n', 'p');
        Check.is("sum", x.checksum(), before);
    }

    // ---- promise 62

    static void promise62_theEmptyBook() {
        Recorded x = new Recorded();
        Check.isTrue("without a plan", x.isTrue());
        x.plan('n', 'p');
        Check.isTrue("as hands are free", x.isTrue());
        x.plan('n', 's');
        Check.isTrue("one after another", x.isTrue());
    }

    private static void holds(Recorded x) {
        Check.isTrue("without a plan", x.again().isTrue());
        for (int hands = 1; hands <= 5; hands++) {
            x.hands(0, hands);
            for (char rule : RULES.toCharArray()) {
                x.plan(rule, 'p');
                Check.isTrue("as hands are free", x.isTrue());
                x.plan(rule, 's');
                Check.isTrue("one after another", x.isTrue());
            }
        }
    }

    static void promise62_theFullBooks() {
        holds(full());
        holds(fullOfNeeds());
        holds(row(20, 60, 0));
        holds(row(20, 60, 30));
    }

    static void promise62_aRichBook() {
        holds(rich());
    }

    static void promise62_otherHandsThanThePlans() {
        Recorded x = alike(7, 3);
        x.hands(0, 5);
        x.plan('n', 'p');
        x.hands(0, 1);
        Check.isTrue("less hands", x.isTrue());
        x.plan('n', 'p');
        x.hands(0, 5);
        Check.isTrue("more hands", x.isTrue());
    }

    /** Machines, other skills and lags may keep a plan from being proved, but not the theorem. */
    static void promise62_plansThatAreNotOfTheTheorem() {
        Recorded machine = alike(2, 2);
        machine.set(0, 'm', 0);
        machine.set(1, 'm', 0);
        machine.hands(0, 2);
        machine.plan('n', 'p');
        Check.is("proved", machine.isProved(), false);
        Check.isTrue("with a machine", machine.isTrue());
        Recorded skill = alike(2, 2);
        skill.set(0, 's', 1);
        skill.set(1, 's', 1);
        skill.plan('n', 'p');
        Check.is("proved", skill.isProved(), false);
        Check.isTrue("with another skill", skill.isTrue());
        Recorded after = ofText("3;1;1:0;1:0;3");
        after.hands(0, 2);
        after.plan('n', 's');
        Check.is("proved", after.isProved(), false);
        Check.isTrue("one after another", after.isTrue());
    }

    static void promise62_aLagIsNotOfTheTheorem() {
        for (int lag : new int[] {1, 30}) {
            Recorded x = row(2, 1, lag);
            x.plan('n', 'p');
            Check.isTrue("one hand for more hours than the lengths have", x.planEnd() > 2 && x.isTrue());
        }
    }
}
