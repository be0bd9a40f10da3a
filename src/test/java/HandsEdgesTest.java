import java.util.function.Consumer;

/** The edges of promises 29 to 40: hands, lists, plans and their proofs. */
public final class HandsEdgesTest extends Edges {

    public static void main(String[] args) {
        Check.runAll(HandsEdgesTest.class);
    }

    private static Recorded planned(Recorded x, char rule, char way) {
        x.plan(rule, way);
        return x;
    }

    private static Recorded emptyPlan() {
        return planned(new Recorded(), 'n', 'p');
    }

    private static void plan(Recorded x, char rule, char way, int end, int... begins) {
        Check.is("end of " + rule + way, x.plan(rule, way), end);
        Check.is("plan's end of " + rule + way, x.planEnd(), end);
        for (int task = 0; task < begins.length; task++) {
            Check.is("begin of " + task + " by " + rule + way, x.planBegin(task), begins[task]);
        }
    }

    /** By both ways the plan is the same. */
    private static void plans(Recorded x, int end, int... begins) {
        plan(x, 'n', 'p', end, begins);
        plan(x, 'n', 's', end, begins);
    }

    // ---- promise 29

    static void promise29_noSuchSkill() {
        refused(BAD, rich(), (y, skill) -> y.hands(skill, 1), -1, 3, LEAST, MOST);
    }

    static void promise29_allThreeSkillsAreApart() {
        Recorded x = new Recorded();
        for (int skill = 0; skill < 3; skill++) {
            Check.is("before", x.hands(skill, skill + 3), 1);
        }
        for (int skill = 0; skill < 3; skill++) {
            Check.is("before", x.hands(skill, 1), skill + 3);
        }
    }

    static void promise29_manyOutOfRangeIsRefused() {
        for (int skill = 0; skill < 3; skill++) {
            int each = skill;
            refused(BAD, rich(), (y, many) -> y.hands(each, many), 0, -1, 6, LEAST, MOST);
        }
    }

    static void promise29_1IsTheLeastAnd5TheGreatest() {
        Recorded x = new Recorded();
        Check.is("before", x.hands(2, 5), 1);
        Check.is("before", x.hands(2, 1), 5);
        Check.is("before", x.hands(2, 1), 1);
    }

    static void promise29_bothOutOfRange() {
        refused(BAD, rich(), (y, number) -> y.hands(number, number), -1, 6, LEAST, MOST);
    }

    // ---- promises 30, 31

    private static Recorded allTyped() {
        Recorded x = full();
        for (int task = 19; task >= 0; task--) {
            Check.is("typed", x.list(task), 20 - task);
        }
        return x;
    }

    static void promise30_noSuchTask() {
        noTask(rich(), Recorded::list);
        noTask(new Recorded(), Recorded::list);
        noTask(full(), Recorded::list);
        noTask(allTyped(), Recorded::list);
    }

    static void promise30_twiceIsRefused() {
        refused(BAD, rich(), Recorded::list, 0, 2);
        Recorded x = with(1);
        x.list(0);
        refused(BAD, x, Recorded::list, 0);
    }

    static void promise30_all20AreTyped() {
        Recorded x = allTyped();
        refused(BAD, x, Recorded::list, 0, 10, 19);
        for (int place = 0; place < 20; place++) {
            Check.is("typed at " + place, x.listed('t', place), 19 - place);
        }
    }

    static void promise30_againBehindWipe() {
        Recorded x = allTyped();
        x.wipe();
        Check.is("typed", x.list(0), 1);
        refused(BAD, x, Recorded::list, 0);
    }

    static void promise30_againBehindUndoAndRead() {
        Recorded x = with(1, 1);
        x.list(0);
        x.undo();
        Check.is("typed", x.list(0), 1);
        readText(x, "1");
        Check.is("typed", x.list(0), 1);
    }

    static void promise31_theEmptyListHad0() {
        Check.is("wiped", new Recorded().wipe(), 0);
        Check.is("wiped", full().wipe(), 0);
    }

    static void promise31_theFullListHad20() {
        Recorded x = allTyped();
        Check.is("wiped", x.wipe(), 20);
        Check.is("wiped again", x.wipe(), 0);
        for (int place = 0; place < 20; place++) {
            Check.is("by numbers", x.listed('t', place), place);
        }
    }

    static void promise31_whatIsRefusedIsNotCounted() {
        Recorded x = with(1, 1);
        x.list(1);
        Check.answer(() -> x.list(1));
        Check.answer(() -> x.list(2));
        Check.is("wiped", x.wipe(), 1);
    }

    // ---- promise 32

    private static void list(Recorded x, char rule, int... tasks) {
        for (int place = 0; place < tasks.length; place++) {
            Check.is("list " + rule + " at " + place, x.listed(rule, place), tasks[place]);
        }
    }

    static void promise32_noSuchRule() {
        refusedSigns(BAD, rich(), (y, rule) -> y.listed(rule, 0), lettersBut(RULES));
    }

    static void promise32_noSuchPlace() {
        for (char rule : RULES.toCharArray()) {
            refused(PLACE, rich(), (y, place) -> y.listed(rule, place), -1, 4, LEAST, MOST);
            refused(PLACE, full(), (y, place) -> y.listed(rule, place), -1, 20, LEAST, MOST);
        }
    }

    static void promise32_noPlaceWithoutTasks() {
        for (char rule : RULES.toCharArray()) {
            refused(PLACE, new Recorded(), (y, place) -> y.listed(rule, place), 0, -1, LEAST, MOST);
        }
    }

    static void promise32_aRuleGoesAheadOfAPlace() {
        refused(BAD, rich(), (y, place) -> y.listed('x', place), -1, 4, LEAST, MOST);
    }

    static void promise32_likeOnesByNumbers() {
        for (char rule : RULES.toCharArray()) {
            for (int place = 0; place < 20; place++) {
                Check.is("list " + rule, full().listed(rule, place), place);
            }
        }
    }

    static void promise32_byAnHour() {
        list(with(59, 60, 59, 60), 'l', 1, 3, 0, 2);
        list(ofText("1;1;1:0;1:1;1:1+1"), 'r', 1, 0, 2, 3, 4);
        list(ofText("1;1;1:0;1:1;1:1+1"), 's', 1, 4, 0, 2, 3);
    }

    static void promise32_theGreatestRestAndSlack() {
        Recorded x = row(19, 60, 30);
        x.task(1);
        for (int place = 0; place < 20; place++) {
            Check.is("by the rest", x.listed('r', place), place);
            Check.is("by the slack", x.listed('s', place), place);
        }
        Recorded turned = with(1, 60, 60);
        turned.need(1, 2, 30);
        list(turned, 'r', 1, 2, 0);
        list(turned, 's', 1, 2, 0);
    }

    static void promise32_oneIsTyped() {
        Recorded x = full();
        x.list(19);
        list(x, 't', 19, 0, 1, 2, 3);
        Check.is("the last", x.listed('t', 19), 18);
    }

    // ---- promise 33

    static void promise33_noSuchRule() {
        refusedSigns(BAD, rich(), (y, rule) -> y.plan(rule, 'p'), lettersBut(RULES));
        refusedSigns(BAD, new Recorded(), (y, rule) -> y.plan(rule, 's'), "xp" + (char) 0);
    }

    static void promise33_noSuchWay() {
        refusedSigns(BAD, rich(), (y, way) -> y.plan('n', way), lettersBut("ps"));
        refusedSigns(BAD, new Recorded(), (y, way) -> y.plan('n', way), "xn" + (char) 0);
    }

    static void promise33_noSuchRuleAndNoSuchWay() {
        Check.fails(BAD, rich(), y -> y.plan('x', 'x'));
        Check.fails(BAD, rich(), y -> y.plan('p', 'n'));
    }

    static void promise33_0WithoutTasks() {
        for (char rule : RULES.toCharArray()) {
            plan(new Recorded(), rule, 'p', 0);
            plan(new Recorded(), rule, 's', 0);
        }
    }

    static void promise33_theShortestAndTheLongestTask() {
        plans(with(1), 1, 0);
        plans(with(60), 60, 0);
    }

    static void promise33_twentyTasksOfOneHand() {
        int[] begins = new int[20];
        for (int task = 0; task < 20; task++) {
            begins[task] = 60 * task;
        }
        plans(alike(20, 60), 1200, begins);
    }

    static void promise33_twentyTasksInARow() {
        int[] begins = new int[20];
        for (int task = 0; task < 20; task++) {
            begins[task] = 90 * task;
        }
        plans(row(20, 60, 30), 1770, begins);
    }

    static void promise33_fiftyNeeds() {
        Recorded x = fullOfNeeds();
        x.hands(0, 2);
        plans(x, 10, 0, 1, 2, 3, 4, 5, 6, 7, 8, 9, 5, 0);
    }

    static void promise33_fiveHandsAtOnceAndASixthTaskBehind() {
        Recorded x = alike(6, 2);
        x.hands(0, 5);
        plans(x, 4, 0, 0, 0, 0, 0, 2);
        Check.is("the hand of the fifth", x.planHand(4), 4);
        Check.is("the hand of the sixth", x.planHand(5), 0);
    }

    static void promise33_allSkillsHaveHandsOfTheirOwn() {
        Recorded x = alike(6, 2);
        x.set(1, 's', 1);
        x.set(2, 's', 2);
        x.set(4, 's', 1);
        x.set(5, 's', 2);
        x.hands(1, 2);
        plans(x, 4, 0, 0, 0, 2, 0, 2);
    }

    static void promise33_eachMachineDoesOneAtATime() {
        for (int machine = 0; machine < 3; machine++) {
            Recorded x = alike(3, 2);
            x.hands(0, 3);
            x.set(0, 'm', machine);
            x.set(2, 'm', machine);
            plans(x, 4, 0, 0, 2);
        }
    }

    static void promise33_noMachineHoldsUpNone() {
        Recorded x = alike(3, 2);
        x.hands(0, 3);
        x.set(0, 'm', 2);
        x.set(0, 'm', -1);
        plans(x, 2, 0, 0, 0);
    }

    static void promise33_oneMachineForTwoSkills() {
        Recorded x = with(3, 2);
        x.set(0, 'm', 0);
        x.set(1, 'm', 0);
        x.set(1, 's', 2);
        plans(x, 5, 0, 3);
    }

    static void promise33_twoMachinesAreApart() {
        Recorded x = with(3, 2);
        x.hands(0, 2);
        x.set(0, 'm', 0);
        x.set(1, 'm', 1);
        plans(x, 3, 0, 0);
    }

    static void promise33_lettingBehindALagOf30() {
        plans(ofText("1;1:0+30;30"), 32, 0, 31, 1);
        plan(ofText("1;1:0+30;31"), 'n', 'p', 33, 0, 32, 1);
        plan(ofText("1;1:0+30;31"), 'n', 's', 63, 0, 31, 32);
    }

    static void promise33_aHoleOfJustItsLength() {
        plan(ofText("1;1:0+4;4"), 'n', 's', 6, 0, 5, 1);
    }

    static void promise33_aHoleThatIsAnHourShort() {
        plan(ofText("1;1:0+4;5"), 'n', 's', 11, 0, 5, 6);
    }

    static void promise33_aHoleOfAMachineThatIsAnHourShort() {
        Recorded x = ofText("1;1:0+4;5");
        x.hands(0, 2);
        plan(x, 'n', 's', 6, 0, 5, 0);
        for (int task = 0; task < 3; task++) {
            x.set(task, 'm', 1);
        }
        plan(x, 'n', 's', 11, 0, 5, 6);
        x.set(2, 'l', 4);
        plan(x, 'n', 's', 6, 0, 5, 1);
    }

    static void promise33_freeHandsTakeNoHoleIntoAccount() {
        plan(ofText("1;1:0+4;5"), 'n', 'p', 7, 0, 6, 1);
    }

    static void promise33_oneThatIsTypedAheadOfWhatItNeeds() {
        Recorded x = ofText("2;1:0;2");
        x.list(1);
        x.list(2);
        plan(x, 't', 'p', 5, 2, 4, 0);
        plan(x, 't', 's', 5, 2, 4, 0);
    }

    static void promise33_aRefusedPlanLeavesTheOneThatIsThere() {
        Recorded x = with(2, 3);
        plan(x, 'l', 'p', 5, 3, 0);
        Check.fails(BAD, x, y -> y.plan('n', 'x'));
        Check.is("begin", x.planBegin(0), 3);
    }

    static void promise33_anotherPlanStandsInItsPlace() {
        Recorded x = with(2, 3);
        plan(x, 'l', 'p', 5, 3, 0);
        plan(x, 'n', 's', 5, 0, 2);
    }

    // ---- promises 34 and 36: how long a plan stays

    private static void ends(Consumer<Recorded> call) {
        Recorded x = planned(with(5, 6), 'n', 'p');
        x.need(0, 1, 0);
        x.plan('n', 'p');
        call.accept(x);
        Check.fails(STATE, x, y -> y.planEnd());
    }

    private static void stays(Consumer<Recorded> call) {
        Recorded x = with(5, 6);
        x.need(0, 1, 3);
        x.hands(0, 2);
        x.plan('n', 'p');
        Check.answer(() -> {
            call.accept(x);
            return 0;
        });
        Check.is("end", x.planEnd(), 14);
        Check.is("begin", x.planBegin(1), 8);
        Check.is("hand", x.planHand(1), 0);
    }

    static void promise36_eachCallThatKeepsTheBookEndsThePlan() {
        ends(x -> x.task(1));
        ends(x -> x.set(0, 'w', 0));
        ends(x -> x.dropNeed(0));
        ends(x -> x.shorten(0, 0, 0));
        ends(x -> x.guess(0, 5, 5));
        ends(x -> readText(x, "5"));
        Recorded need = planned(with(1, 1), 'n', 's');
        need.need(0, 1, 0);
        Check.fails(STATE, need, y -> y.planEnd());
    }

    static void promise36_undoEndsThePlan() {
        ends(x -> x.undo());
    }

    static void promise36_noOtherCallEndsThePlan() {
        stays(x -> x.hands(0, 1));
        stays(x -> x.hours(0, 0, 9, false));
        stays(x -> x.list(1));
        stays(x -> x.wipe());
        stays(x -> x.keep());
        stays(x -> x.type('1'));
        stays(x -> x.erase());
        stays(x -> readText(x, "1;"));
        stays(x -> x.anomaly('n', 'n'));
        stays(x -> x.best(1));
        stays(x -> x.isTrue());
    }

    static void promise36_noRefusedCallEndsThePlan() {
        stays(x -> x.task(61));
        stays(x -> x.set(0, 'w', -1));
        stays(x -> x.need(0, 1, 0));
        stays(x -> x.dropNeed(1));
        stays(x -> x.shorten(0, 5, 0));
        stays(x -> x.guess(0, 6, 6));
        stays(x -> x.plan('n', 'x'));
        stays(x -> x.plan('x', 's'));
    }

    static void promise36_thereIsNoPlan() {
        Check.fails(STATE, new Recorded(), y -> y.planEnd());
        Check.fails(STATE, full(), y -> y.planEnd());
    }

    static void promise36_0WithoutTasks() {
        Check.is("end", emptyPlan().planEnd(), 0);
    }

    static void promise36_itHasTheHandsThatThereWere() {
        Recorded x = alike(5, 1);
        x.hands(0, 5);
        x.plan('n', 'p');
        x.hands(0, 1);
        Check.is("end", x.planEnd(), 1);
        Check.is("hand", x.planHand(4), 4);
        Check.is("busy", x.busy(0, 0), 5);
        Check.is("end of the next one", x.plan('n', 'p'), 5);
    }

    static void promise34_thereIsNoPlan() {
        refused(STATE, with(1, 1), Recorded::planBegin, 0, 1);
    }

    static void promise34_noPlanGoesAheadOfATask() {
        refused(STATE, with(1, 1), Recorded::planBegin, -1, 2, LEAST, MOST);
        refused(STATE, new Recorded(), Recorded::planBegin, 0, -1, LEAST, MOST);
    }

    static void promise34_noSuchTask() {
        noTask(rich(), Recorded::planBegin);
        noTask(emptyPlan(), Recorded::planBegin);
        noTask(planned(full(), 'n', 's'), Recorded::planBegin);
    }

    // ---- promise 35

    static void promise35_thereIsNoPlan() {
        refused(STATE, with(1, 1), Recorded::planHand, 0, 1);
    }

    static void promise35_noPlanGoesAheadOfATask() {
        refused(STATE, with(1, 1), Recorded::planHand, -1, 2, LEAST, MOST);
        refused(STATE, new Recorded(), Recorded::planHand, 0, -1, LEAST, MOST);
    }

    static void promise35_noSuchTask() {
        noTask(rich(), Recorded::planHand);
        noTask(emptyPlan(), Recorded::planHand);
        noTask(planned(full(), 'n', 's'), Recorded::planHand);
    }

    private static void handsAre(Recorded x, char way, int... hands) {
        x.plan('n', way);
        for (int task = 0; task < hands.length; task++) {
            Check.is("hand of " + task + " by " + way, x.planHand(task), hands[task]);
        }
    }

    static void promise35_theFreeOneOfTheLeastNumber() {
        Recorded x = with(3, 1, 1, 1, 2, 1);
        x.hands(0, 4);
        handsAre(x, 'p', 0, 1, 2, 3, 1, 2);
        handsAre(x, 's', 0, 1, 2, 3, 1, 2);
    }

    static void promise35_itIsFreeAgainJustAtTheEnd() {
        Recorded x = with(3, 2, 1, 1);
        x.hands(0, 2);
        handsAre(x, 'p', 0, 1, 1, 0);
        handsAre(x, 's', 0, 1, 1, 0);
    }

    static void promise35_aHoleOfTheHandWithTheLeastNumber() {
        Recorded x = ofText("1;3;1:0+4;4");
        x.hands(0, 2);
        handsAre(x, 's', 0, 1, 0, 0);
        x.set(3, 'l', 5);
        handsAre(x, 's', 0, 1, 0, 1);
    }

    static void promise35_numbersBeginWithEachSkill() {
        Recorded x = with(1, 1, 1);
        x.set(1, 's', 1);
        x.set(2, 's', 2);
        handsAre(x, 'p', 0, 0, 0);
    }

    // ---- promise 37

    static void promise37_thereIsNoPlan() {
        Check.fails(STATE, with(1), y -> y.busy(0, 0));
    }

    static void promise37_noPlanGoesAheadOfASkillAndAnHour() {
        refused(STATE, with(1), (y, skill) -> y.busy(skill, 0), -1, 3, LEAST, MOST);
        refused(STATE, with(1), (y, hour) -> y.busy(0, hour), -1, LEAST);
    }

    static void promise37_noSuchSkill() {
        refused(BAD, rich(), (y, skill) -> y.busy(skill, 0), -1, 3, LEAST, MOST);
        refused(BAD, emptyPlan(), (y, skill) -> y.busy(skill, 0), -1, 3, LEAST, MOST);
    }

    static void promise37_anHourBelow0IsRefused() {
        refused(BAD, rich(), (y, hour) -> y.busy(0, hour), -1, LEAST);
        refused(BAD, rich(), (y, hour) -> y.busy(3, hour), -1, LEAST);
    }

    static void promise37_theFirstAndTheLastHourOfATask() {
        Recorded x = ofText("2;3:0+1");
        x.hands(0, 2);
        x.plan('n', 'p');
        int[] due = {1, 1, 0, 1, 1, 1, 0, 0};
        for (int hour = 0; hour < due.length; hour++) {
            Check.is("busy in " + hour, x.busy(0, hour), due[hour]);
        }
    }

    static void promise37_theGreatestHour() {
        Check.is("busy", rich().busy(0, MOST), 0);
        Check.is("busy", emptyPlan().busy(0, MOST), 0);
        Check.is("busy", emptyPlan().busy(2, 0), 0);
    }

    static void promise37_allFiveHands() {
        Recorded x = alike(7, 1);
        x.hands(0, 5);
        x.plan('n', 's');
        Check.is("busy", x.busy(0, 0), 5);
        Check.is("busy", x.busy(0, 1), 2);
        Check.is("busy", x.busy(0, 2), 0);
    }

    static void promise37_allThreeSkills() {
        Recorded x = alike(3, 1);
        x.set(0, 's', 2);
        x.set(1, 's', 2);
        x.set(2, 's', 1);
        x.hands(2, 2);
        x.plan('n', 'p');
        Check.is("busy", x.busy(0, 0), 0);
        Check.is("busy", x.busy(1, 0), 1);
        Check.is("busy", x.busy(2, 0), 2);
    }

    // ---- promises 38, 39

    private static void proof(Recorded x, int... tasks) {
        Check.is("proof", x.proofLength(), tasks.length);
        for (int place = 0; place < tasks.length; place++) {
            Check.is("proof at " + place, x.proofAt(place), tasks[place]);
        }
    }

    static void promise38_thereIsNoPlan() {
        Check.fails(STATE, new Recorded(), y -> y.proofLength());
        Check.fails(STATE, full(), y -> y.proofLength());
    }

    static void promise38_0WithoutTasks() {
        Check.is("proof", emptyPlan().proofLength(), 0);
        Check.is("proof", planned(new Recorded(), 'n', 's').proofLength(), 0);
    }

    static void promise38_theOnlyTask() {
        proof(planned(with(1), 'n', 'p'), 0);
    }

    static void promise38_allTasksOfAFullBook() {
        Recorded x = planned(row(20, 60, 30), 'n', 'p');
        Check.is("proof", x.proofLength(), 20);
        Check.is("the first", x.proofAt(0), 0);
        Check.is("the last", x.proofAt(19), 19);
    }

    static void promise39_thereIsNoPlan() {
        refused(STATE, full(), Recorded::proofAt, 0, 19);
    }

    static void promise39_noPlanGoesAheadOfAPlace() {
        refused(STATE, full(), Recorded::proofAt, -1, 20, LEAST, MOST);
        refused(STATE, new Recorded(), Recorded::proofAt, -1, 0, LEAST, MOST);
    }

    static void promise39_noSuchPlace() {
        refused(PLACE, rich(), Recorded::proofAt, -1, rich().proofLength(), 4, LEAST, MOST);
        refused(PLACE, planned(row(20, 1, 0), 'n', 'p'), Recorded::proofAt, -1, 20, LEAST, MOST);
        refused(PLACE, emptyPlan(), Recorded::proofAt, 0, -1, LEAST, MOST);
    }

    static void promise39_theLastIsTheOneThatEndsLast() {
        Recorded x = with(3, 2);
        proof(planned(x, 'n', 'p'), 1);
        proof(planned(x, 'l', 'p'), 1);
        x.list(1);
        proof(planned(x, 't', 'p'), 0);
    }

    static void promise39_ofThoseThatEndLastTheLowestNumber() {
        Recorded x = alike(5, 2);
        x.hands(0, 5);
        proof(planned(x, 'n', 'p'), 0);
        x.hands(0, 2);
        x.set(4, 'l', 1);
        proof(planned(x, 'l', 'p'), 4);
        x.set(4, 'l', 2);
        x.hands(0, 3);
        proof(planned(x, 'n', 'p'), 3);
    }

    static void promise39_aheadIsTheLatestEndWithItsLag() {
        proof(planned(withHands("3;5;1:0+2,1", 5), 'n', 'p'), 0, 2);
        proof(planned(withHands("3;5;1:0+1,1", 5), 'n', 'p'), 1, 2);
        proof(planned(withHands("3;5;1:0+3,1", 5), 'n', 'p'), 0, 2);
    }

    static void promise39_ofLikeEndsTheLowestNumber() {
        proof(planned(withHands("3;3;1:1,0", 5), 'n', 'p'), 0, 2);
        proof(planned(withHands("3;3;1:0,1", 5), 'n', 'p'), 0, 2);
        proof(planned(withHands("3;4;1:1,0+1", 5), 'n', 'p'), 0, 2);
    }

    static void promise39_theFirstNeedsNone() {
        proof(planned(withHands("3;4:0;1:1;60", 5), 'n', 'p'), 3);
        proof(planned(withHands("3;4:0;1:1;7", 5), 'n', 'p'), 0, 1, 2);
    }

    private static Recorded withHands(String text, int hands) {
        Recorded x = ofText(text);
        x.hands(0, hands);
        return x;
    }

    // ---- promise 40

    static void promise40_thereIsNoPlan() {
        Check.fails(STATE, new Recorded(), y -> y.isProved());
        Check.fails(STATE, full(), y -> y.isProved());
    }

    static void promise40_thePlanWithoutTasksIsProved() {
        Check.isTrue("proved", emptyPlan().isProved());
        Check.isTrue("proved", planned(new Recorded(), 'n', 's').isProved());
    }

    static void promise40_theProofAloneFillsThePlan() {
        Check.isTrue("proved", planned(withHands("2;3:0;4:1", 5), 'n', 'p').isProved());
    }

    static void promise40_aLagThatRunsCounts() {
        Check.isTrue("proved", planned(row(20, 60, 30), 'n', 'p').isProved());
    }

    /** The last task waits for a machine, an hour longer than the lag runs, unless that is 3. */
    private static Recorded waiting(int lag, int length) {
        Recorded x = with(1, 1, 4, length);
        x.need(0, 1, lag);
        x.set(1, 'm', 0);
        x.set(2, 'm', 0);
        x.set(2, 's', 1);
        x.plan('n', 'p');
        Check.is("begin", x.planBegin(1), 4);
        return x;
    }

    static void promise40_theHourBehindTheLagDoesNotCount() {
        Check.is("proved", waiting(2, 2).isProved(), false);
    }

    static void promise40_theLastHourOfTheLagCounts() {
        Check.is("proved", waiting(3, 2).isProved(), true);
    }

    static void promise40_allHandsInTheHourBehindTheLag() {
        Check.is("proved", waiting(2, 3).isProved(), true);
    }

    private static Recorded aheadOfTheProof(int others, int hands) {
        Recorded x = with(1, 1);
        x.set(0, 'm', 0);
        x.set(0, 's', 1);
        x.set(1, 'm', 0);
        for (int other = 0; other < others; other++) {
            x.task(1);
        }
        x.hands(0, hands);
        x.plan('n', 'p');
        proof(x, 1);
        return x;
    }

    static void promise40_anHourAheadOfTheProofWithoutAllHands() {
        Check.is("proved", aheadOfTheProof(0, 1).isProved(), false);
        Check.is("proved", aheadOfTheProof(1, 2).isProved(), false);
        Check.is("proved", aheadOfTheProof(4, 5).isProved(), false);
    }

    static void promise40_anHourAheadOfTheProofWithAllHands() {
        Check.is("proved", aheadOfTheProof(1, 1).isProved(), true);
        Check.is("proved", aheadOfTheProof(2, 2).isProved(), true);
        Check.is("proved", aheadOfTheProof(5, 5).isProved(), true);
    }

    static void promise40_handsOfOtherSkillsDoNotCount() {
        Recorded x = with(1, 1, 1, 1);
        x.set(0, 's', 1);
        x.set(1, 's', 1);
        x.hands(0, 2);
        x.plan('n', 'p');
        proof(x, 1);
        Check.is("with all hands of the skill 0", x.isProved(), true);
        x.set(3, 's', 2);
        x.plan('n', 'p');
        Check.is("without one of them", x.isProved(), false);
    }

    static void promise40_aHoleThatIsTooShortForTheLastTask() {
        Recorded x = planned(withHands("3;1;1:0;1:0;3", 2), 'n', 's');
        proof(x, 4);
        Check.is("proved", x.isProved(), false);
        Check.is("as hands are free", planned(x, 'n', 'p').isProved(), true);
    }

    static void promise40_allTheHandsThatThereWere() {
        Recorded x = aheadOfTheProof(1, 1);
        x.hands(0, 2);
        Check.is("proved", x.isProved(), true);
        Recorded y = aheadOfTheProof(1, 2);
        y.hands(0, 1);
        Check.is("proved", y.isProved(), false);
    }
}
