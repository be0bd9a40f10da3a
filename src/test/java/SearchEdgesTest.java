import java.util.function.BiConsumer;

/** The edges of promises 41 to 51: like hands, anomalies, the least peak, money and guesses. */
public final class SearchEdgesTest extends Edges {

    /** Nine hours with five hands, ten with six. */
    private static final String SIXTH_HAND = "2;3;5;1;1;2:1;6:1;6;3:3;1;3;3;1";

    public static void main(String[] args) {
        Check.runAll(SearchEdgesTest.class);
    }

    // ---- promises 41, 42

    private static void bothAre(Recorded x, int... ends) {
        for (int hands = 1; hands <= ends.length; hands++) {
            Check.is("best with " + hands, x.best(hands), ends[hands - 1]);
            Check.is("best by lists with " + hands, x.bestByLists(hands), ends[hands - 1]);
        }
    }

    static void promise41_handsOutOfRangeAreRefused() {
        refused(BAD, rich(), Recorded::best, 0, -1, 5, LEAST, MOST);
        refused(BAD, new Recorded(), Recorded::best, 0, -1, 5, LEAST, MOST);
    }

    static void promise41_moreThan6TasksAreRefused() {
        refused(NEVER, alike(7, 1), Recorded::best, 1, 2, 3, 4);
        refused(NEVER, full(), Recorded::best, 1, 4);
    }

    static void promise41_theHandsGoAheadOf7Tasks() {
        refused(BAD, alike(7, 1), Recorded::best, 0, -1, 5, LEAST, MOST);
    }

    static void promise41_0WithoutTasks() {
        bothAre(new Recorded(), 0, 0, 0, 0);
    }

    static void promise41_theOnlyTask() {
        bothAre(with(1), 1, 1, 1, 1);
        bothAre(with(60), 60, 60, 60, 60);
    }

    static void promise41_sixTasks() {
        bothAre(alike(6, 60), 360, 180, 120, 120);
        bothAre(alike(6, 1), 6, 3, 2, 2);
    }

    static void promise41_theLongestRow() {
        bothAre(row(6, 60, 30), 510, 510, 510, 510);
    }

    static void promise41_asManyHandsAsTasks() {
        bothAre(with(4, 3, 2, 1), 10, 5, 4, 4);
    }

    static void promise41_machinesAndSkillsAreLeftAside() {
        Recorded x = alike(4, 3);
        for (int task = 0; task < 4; task++) {
            x.set(task, 'm', 0);
            x.set(task, 's', task % 3);
        }
        x.hands(0, 5);
        bothAre(x, 12, 6, 6, 3);
    }

    static void promise41_lagsAreNot() {
        bothAre(ofText("1;1:0+30;30"), 32, 32);
        Check.is("best", ofText("1;1:0+30;31").best(1), 33);
        Check.is("best", ofText("1;1:0+30;31").best(2), 32);
    }

    static void promise41_waitingIsLet() {
        Recorded x = ofText("1;5:0;5:0;5:1,2;5");
        Check.is("best", x.best(2), 11);
        Check.is("best by lists", x.bestByLists(2), 15);
    }

    static void promise42_handsOutOfRangeAreRefused() {
        refused(BAD, rich(), Recorded::bestByLists, 0, -1, 5, LEAST, MOST);
        refused(BAD, new Recorded(), Recorded::bestByLists, 0, -1, 5, LEAST, MOST);
    }

    static void promise42_moreThan6TasksAreRefused() {
        refused(NEVER, alike(7, 1), Recorded::bestByLists, 1, 2, 3, 4);
        refused(NEVER, full(), Recorded::bestByLists, 1, 4);
    }

    static void promise42_theHandsGoAheadOf7Tasks() {
        refused(BAD, alike(7, 1), Recorded::bestByLists, 0, -1, 5, LEAST, MOST);
    }

    static void promise42_0WithoutTasks() {
        for (int hands = 1; hands <= 4; hands++) {
            Check.is("best by lists", new Recorded().bestByLists(hands), 0);
        }
    }

    static void promise42_sixTasksOfOneLengthWithoutLagsAreTheBest() {
        Recorded x = ofText("4;4;4:0;4:0,1;4:2;4");
        for (int hands = 1; hands <= 4; hands++) {
            Check.is("best by lists", x.bestByLists(hands), x.best(hands));
        }
        Check.is("with two", x.best(2), 12);
    }

    // ---- promise 43

    static void promise43_noSuchKind() {
        refusedSigns(BAD, rich(), (y, kind) -> y.anomaly(kind, 'n'), lettersBut("hsn"));
    }

    static void promise43_noSuchRule() {
        for (char kind : "hsn".toCharArray()) {
            refusedSigns(BAD, rich(), (y, rule) -> y.anomaly(kind, rule), "xhpNLRST" + (char) 0 + (char) 366);
        }
    }

    static void promise43_noSuchKindAndNoSuchRule() {
        Check.fails(BAD, rich(), y -> y.anomaly('x', 'x'));
        Check.fails(BAD, new Recorded(), y -> y.anomaly('r', 'h'));
    }

    static void promise43_noneWithoutTasks() {
        for (char kind : "hsn".toCharArray()) {
            for (char rule : RULES.toCharArray()) {
                Check.is("anomaly " + kind + rule, new Recorded().anomaly(kind, rule), -1);
            }
        }
    }

    static void promise43_noneWithoutNeeds() {
        Check.is("a need less", alike(20, 60).anomaly('n', 'n'), -1);
    }

    private static Recorded ofTwoHands(String text) {
        Recorded x = ofText(text);
        x.hands(0, 2);
        return x;
    }

    static void promise43_aTaskOfAnHourIsNotShorter() {
        Check.is("all of an hour", alike(20, 1).anomaly('s', 'n'), -1);
        Check.is("the first of an hour", ofTwoHands("1;2:0;4:0;2;3:1").anomaly('s', 'n'), -1);
    }

    static void promise43_aTaskOfTwoHoursIsShorter() {
        Recorded x = ofTwoHands("2;2:0;1;1:0;4");
        Check.is("the end", x.plan('n', 'p'), 5);
        Check.is("the first of two hours", x.anomaly('s', 'n'), 0);
        x.set(0, 'l', 1);
        Check.is("the end with that", x.plan('n', 'p'), 6);
    }

    static void promise43_theFirstTaskAndOneBehindIt() {
        Check.is("the first", ofTwoHands("2;2:0;1;1:0;4").anomaly('s', 'n'), 0);
        Check.is("the fourth", ofTwoHands("4;2:0;4:0;4;2").anomaly('s', 'n'), 3);
    }

    static void promise43_askedTwiceItIsTheSame() {
        Recorded x = ofTwoHands("2;4;1:0,1;3");
        for (int each = 0; each < 2; each++) {
            Check.is("a need less", x.anomaly('n', 'n'), 1);
            Check.is("a task shorter", x.anomaly('s', 'n'), -1);
            Check.is("a hand more", x.anomaly('h', 'n'), -1);
        }
        Recorded last = ofTwoHands("2;4;1:1,0;3");
        last.dropNeed(1);
        int before = last.again().anomaly('s', 'n');
        last.anomaly('n', 'n');
        Check.is("a task shorter behind a need less", last.anomaly('s', 'n'), before);
    }

    static void promise43_lessHandsAreNotMore() {
        Recorded x = alike(6, 2);
        x.hands(0, 2);
        Check.is("a hand more", x.anomaly('h', 'n'), -1);
    }

    /** Ten hours with a hand of each skill; with another one of the skill 0 two machines are taken too early. */
    static void promise43_aHandMoreWithoutNeeds() {
        Recorded x = with(4, 2, 3, 2, 3, 4);
        x.set(0, 'm', 1);
        x.set(2, 's', 1);
        x.set(3, 'm', 2);
        x.set(4, 'm', 2);
        x.set(4, 's', 1);
        x.set(5, 'm', 1);
        x.set(5, 's', 1);
        Check.is("the end", x.plan('n', 'p'), 10);
        Check.is("a hand more", x.anomaly('h', 'n'), 0);
        x.hands(0, 2);
        Check.is("the end with that", x.plan('n', 'p'), 11);
    }

    static void promise43_ofTwoNeedsTheFirst() {
        Check.is("the second alone", ofTwoHands("2;4;1:0,1;3").anomaly('n', 'n'), 1);
        Check.is("the first alone", ofTwoHands("2;4;1:1,0;3").anomaly('n', 'n'), 0);
    }

    static void promise43_aSixthHand() {
        Recorded x = ofText(SIXTH_HAND);
        x.hands(0, 5);
        Check.is("the end with five", x.plan('n', 'p'), 9);
        Check.is("one hand more", x.anomaly('h', 'n'), 0);
    }

    static void promise43_oneHandMoreOfTheSkill0Alone() {
        Recorded x = ofText(SIXTH_HAND);
        int tasks = x.tasks();
        for (int task = 0; task < tasks; task++) {
            x.set(task, 's', 1);
        }
        x.hands(1, 5);
        Check.is("one hand more of another skill", x.anomaly('h', 'n'), -1);
    }

    static void promise43_endingAsLateIsNotLater() {
        Recorded x = row(3, 5, 0);
        Check.is("one hand more", x.anomaly('h', 'n'), -1);
        Check.is("a task shorter", x.anomaly('s', 'n'), -1);
        Recorded alone = with(5);
        alone.task(1);
        alone.need(1, 0, 0);
        Check.is("a need less", alone.anomaly('n', 'n'), -1);
    }

    static void promise43_nothingIsChangedByIt() {
        Recorded x = rich();
        String before = State.of(x);
        for (char kind : "hsn".toCharArray()) {
            for (char rule : RULES.toCharArray()) {
                x.anomaly(kind, rule);
            }
        }
        Check.is("the state behind it", State.of(x), before);
    }

    // ---- promise 44

    static void promise44_0WithoutTasks() {
        Check.is("least peak", new Recorded().leastPeak(), 0);
    }

    static void promise44_theOnlyTask() {
        Check.is("least peak", with(1).leastPeak(), 1);
        Check.is("least peak", with(60).leastPeak(), 1);
    }

    static void promise44_sixTasks() {
        Check.is("all at once", alike(6, 60).leastPeak(), 6);
        Check.is("one behind another", row(6, 60, 30).leastPeak(), 1);
    }

    static void promise44_moreThan6TasksAreRefused() {
        Check.fails(NEVER, alike(7, 1), y -> y.leastPeak());
        Check.fails(NEVER, row(7, 1, 0), y -> y.leastPeak());
        Check.fails(NEVER, full(), y -> y.leastPeak());
    }

    static void promise44_just2000Begins() {
        Check.is("25 times 40 times 2", with(60, 36, 21, 59).leastPeak(), 3);
        Check.is("1999 times 1, at most 60", with(60, 1, 28).leastPeak(), 2);
    }

    static void promise44_2001BeginsAreRefused() {
        Check.fails("3 times 23 times 29", NEVER, with(60, 58, 38, 32), y -> y.leastPeak());
        Check.fails("29 times 23 times 3", NEVER, with(32, 38, 58, 60), y -> y.leastPeak());
    }

    static void promise44_2000BeginsTimesTwoMoreAreRefused() {
        Check.fails("2000 times 2", NEVER, with(36, 21, 59, 59, 60), y -> y.leastPeak());
        Check.is("2000 times 1", with(36, 21, 59, 60, 60).leastPeak(), 4);
    }

    static void promise44_mostBeginsAreRefused() {
        Check.fails("60 to the power of 5", NEVER, with(60, 1, 1, 1, 1, 1), y -> y.leastPeak());
        Recorded x = row(3, 60, 30);
        x.task(1);
        x.task(1);
        x.task(1);
        Check.fails("240 to the power of 3", NEVER, x, y -> y.leastPeak());
    }

    static void promise44_theShortestFirst() {
        Check.is("an hour beside both", with(1, 4, 4).leastPeak(), 3);
        Check.is("an hour beside one", with(1, 4, 3).leastPeak(), 2);
    }

    static void promise44_noneEndsLaterThanAtTheEnd() {
        Check.is("two hours for both", with(2, 1, 1).leastPeak(), 2);
        Check.is("an hour too much", with(2, 2, 1).leastPeak(), 3);
    }

    static void promise44_noneBeginsAheadOfItsNeeds() {
        Check.is("two behind another one", ofText("4;2;1:1;1:1").leastPeak(), 2);
        Check.is("with no room for it but at once", ofText("4;2;1:1+1;1:1+1").leastPeak(), 3);
        Check.is("a lag of an hour less", ofText("4;2;1:1;1:1+1").leastPeak(), 2);
    }

    // ---- promise 45

    static void promise45_noSuchTask() {
        noTask(rich(), (y, task) -> y.shorten(task, 0, 0));
        noTask(new Recorded(), (y, task) -> y.shorten(task, 0, 0));
        noTask(full(), (y, task) -> y.shorten(task, 0, 0));
    }

    static void promise45_hoursOutOfRangeAreRefused() {
        refused(BAD, rich(), (y, hours) -> y.shorten(0, hours, 0), -1, 6, LEAST, MOST);
        refused(BAD, with(60), (y, hours) -> y.shorten(0, hours, 99), -1, 6, LEAST, MOST);
    }

    static void promise45_0To5Hours() {
        Recorded x = with(60);
        Check.is("before", x.shorten(0, 5, 1), 0);
        Check.is("before", x.shorten(0, 0, 1), 5);
        Check.is("before", x.shorten(0, 0, 1), 0);
    }

    static void promise45_lessThanItsLength() {
        Recorded x = with(1, 2, 5, 6);
        refused(BAD, x, (y, hours) -> y.shorten(0, hours, 0), 1, 2, 5);
        refused(BAD, x, (y, hours) -> y.shorten(1, hours, 0), 2, 3);
        refused(BAD, x, (y, hours) -> y.shorten(2, hours, 0), 5, 6);
        refused(BAD, x, (y, hours) -> y.shorten(3, hours, 0), 6, 7);
        Check.is("of an hour", x.shorten(0, 0, 99), 0);
        Check.is("of two hours", x.shorten(1, 1, 99), 0);
        Check.is("of five hours", x.shorten(2, 4, 99), 0);
        Check.is("of six hours", x.shorten(3, 5, 99), 0);
        Check.is("least end", x.leastEnd(), 1);
    }

    static void promise45_aCostOutOfRangeIsRefused() {
        refused(BAD, rich(), (y, cost) -> y.shorten(0, 1, cost), -1, 100, LEAST, MOST);
        refused(BAD, with(1), (y, cost) -> y.shorten(0, 0, cost), -1, 100, LEAST, MOST);
    }

    static void promise45_aCostOf0And99() {
        Recorded x = with(9);
        x.shorten(0, 5, 0);
        Check.is("for nothing", x.leastCost(4), 0);
        x.shorten(0, 5, 99);
        Check.is("dear", x.leastCost(4), 495);
    }

    static void promise45_bothOutOfRange() {
        refused(BAD, rich(), (y, number) -> y.shorten(0, number, number), -1, 100, LEAST, MOST);
    }

    static void promise45_noTaskGoesAheadOfTheNumbers() {
        noTask(rich(), (y, task) -> y.shorten(task, 6, 0));
        noTask(rich(), (y, task) -> y.shorten(task, 0, 100));
    }

    // ---- promise 46

    static void promise46_0WithoutTasks() {
        Check.is("least end", new Recorded().leastEnd(), 0);
    }

    static void promise46_theEndIfNoneIsShortened() {
        Check.is("least end", row(20, 60, 30).leastEnd(), 1770);
    }

    static void promise46_allOfAFullBook() {
        Recorded x = row(20, 60, 30);
        for (int task = 0; task < 20; task++) {
            x.shorten(task, 5, 99);
        }
        Check.is("least end", x.leastEnd(), 1670);
        Check.is("end", x.end(), 1770);
    }

    // ---- promise 47

    private static Recorded shortened(Recorded x, int... hours) {
        for (int task = 0; task < hours.length; task++) {
            x.shorten(task, hours[task], 1);
        }
        return x;
    }

    static void promise47_justTheLeastEnd() {
        Recorded x = shortened(row(3, 9, 0), 5, 3, 0);
        Check.is("the least", x.leastCost(19), 8);
        refused(NONE, x, Recorded::leastCost, 18, 0, -1, LEAST);
    }

    static void promise47_justTheEnd() {
        Recorded x = shortened(row(3, 9, 0), 5, 3, 0);
        Check.is("the end", x.leastCost(27), 0);
        Check.is("an hour ahead of it", x.leastCost(26), 1);
        Check.is("behind it", x.leastCost(28), 0);
        Check.is("the greatest time", x.leastCost(MOST), 0);
    }

    static void promise47_withoutTasks() {
        Check.is("the time 0", new Recorded().leastCost(0), 0);
        Check.is("the greatest time", new Recorded().leastCost(MOST), 0);
        refused(NONE, new Recorded(), Recorded::leastCost, -1, LEAST);
    }

    static void promise47_noneIsShortened() {
        Recorded x = row(20, 60, 30);
        Check.is("the end", x.leastCost(1770), 0);
        refused(NONE, x, Recorded::leastCost, 1769, -1, LEAST);
    }

    static void promise47_just2000Ways() {
        Recorded x = shortened(row(5, 60, 0), 4, 4, 4, 3, 3);
        Check.is("all of them", x.leastCost(282), 18);
        Check.is("none of them", x.leastCost(300), 0);
    }

    static void promise47_moreThan2000WaysAreRefused() {
        refused(NEVER, shortened(row(6, 60, 0), 4, 4, 2, 2, 2, 2), Recorded::leastCost, 344, 360, MOST);
        refused(NEVER, shortened(row(6, 60, 0), 4, 4, 4, 3, 3, 1), Recorded::leastCost, 341, 360, MOST);
        refused(NEVER, shortened(alike(11, 60), 1, 1, 1, 1, 1, 1, 1, 1, 1, 1, 1), Recorded::leastCost, 60);
        Check.is("1024 ways", shortened(alike(10, 60), 1, 1, 1, 1, 1, 1, 1, 1, 1, 1).leastCost(59), 10);
    }

    /** Four ways each for 16 tasks are 2 to the power of 32, and for 20 that of 40. */
    static void promise47_waysThatGoRoundAreRefused() {
        Recorded x = alike(16, 60);
        for (int task = 0; task < 16; task++) {
            x.shorten(task, 3, 1);
        }
        refused(NEVER, x, Recorded::leastCost, 57, 60, MOST);
        Recorded more = alike(20, 60);
        for (int task = 0; task < 20; task++) {
            more.shorten(task, task < 11 ? 1 : 5, 1);
        }
        refused(NEVER, more, Recorded::leastCost, 59, MOST);
    }

    static void promise47_whatCannotBeGoesAheadOfTooManyWays() {
        refused(NONE, shortened(row(6, 60, 0), 4, 4, 2, 2, 2, 2), Recorded::leastCost, 343, 0, LEAST);
    }

    static void promise47_theLastOfTwenty() {
        Recorded x = row(20, 60, 30);
        x.shorten(19, 5, 99);
        Check.is("an hour", x.leastCost(1769), 99);
        Check.is("five hours", x.leastCost(1765), 495);
        refused(NONE, x, Recorded::leastCost, 1764);
    }

    static void promise47_theOnesThatCostLess() {
        Recorded x = row(3, 9, 0);
        x.shorten(0, 2, 9);
        x.shorten(1, 2, 1);
        x.shorten(2, 2, 5);
        int[] due = {30, 21, 12, 7, 2, 1, 0};
        for (int time = 21; time <= 27; time++) {
            Check.is("least cost by " + time, x.leastCost(time), due[time - 21]);
        }
    }

    static void promise47_theGreatestCost() {
        Recorded x = row(4, 6, 30);
        for (int task = 0; task < 4; task++) {
            x.shorten(task, 5, 99);
        }
        Check.is("all", x.leastCost(94), 1980);
        Recorded many = alike(6, 60);
        for (int task = 0; task < 6; task++) {
            many.shorten(task, task < 2 ? 5 : 1, 99);
        }
        Check.is("an hour of each", many.leastCost(59), 594);
    }

    // ---- promise 48

    static void promise48_noSuchTask() {
        noTask(rich(), (y, task) -> y.guess(task, 1, 60));
        noTask(new Recorded(), (y, task) -> y.guess(task, 1, 60));
        noTask(full(), (y, task) -> y.guess(task, 1, 60));
    }

    static void promise48_theLeastIs1ToItsLength() {
        Recorded x = with(5);
        refused(BAD, x, (y, low) -> y.guess(0, low, 60), 0, -1, 6, LEAST, MOST);
        Check.is("1", x.guess(0, 1, 9), 1);
        Check.is("parts", x.oddsBy(1), 1L);
        Check.is("its length", x.guess(0, 5, 9), 1);
        Check.is("parts", x.oddsBy(4), 0L);
        Check.is("parts", x.oddsBy(5), 5L);
        refused(BAD, rich(), (y, low) -> y.guess(1, low, 5), 0, -1, 5, LEAST, MOST);
    }

    static void promise48_theGreatestIsFromItsLengthTo60() {
        Recorded x = with(5);
        refused(BAD, x, (y, high) -> y.guess(0, 1, high), 4, 61, 0, -1, LEAST, MOST);
        Check.is("60", x.guess(0, 5, 60), 1);
        Check.is("parts", x.oddsBy(59), 5L);
        Check.is("parts", x.oddsBy(60), 6L);
        Check.is("its length", x.guess(0, 5, 5), 1);
        Check.is("parts", x.oddsBy(5), 6L);
        refused(BAD, rich(), (y, high) -> y.guess(1, 4, high), 3, 61, LEAST, MOST);
    }

    static void promise48_theShortestAndTheLongestTask() {
        Recorded x = with(1, 60);
        refused(BAD, x, (y, low) -> y.guess(0, low, 60), 0, 2);
        refused(BAD, x, (y, high) -> y.guess(1, 1, high), 59, 61);
        Check.is("guessed", x.guess(0, 1, 60), 1);
        Check.is("guessed", x.guess(1, 1, 60), 2);
    }

    static void promise48_bothOutOfRange() {
        Check.fails(BAD, rich(), y -> y.guess(0, 0, 61));
        Check.fails(BAD, rich(), y -> y.guess(0, MOST, LEAST));
        Check.fails(BAD, rich(), y -> y.guess(1, 6, 2));
    }

    static void promise48_noTaskGoesAheadOfTheNumbers() {
        noTask(rich(), (y, task) -> y.guess(task, 0, 61));
    }

    static void promise48_oneThatIsGuessedTwiceCountsOnce() {
        Recorded x = with(5, 6);
        Check.is("guessed", x.guess(0, 1, 60), 1);
        Check.is("guessed", x.guess(0, 5, 5), 1);
        Check.is("guessed", x.guess(1, 6, 6), 2);
    }

    static void promise48_allTasksOfAFullBook() {
        Check.is("guessed", guessed(20), 20);
    }

    private static int guessed(int many) {
        Recorded x = alike(20, 2);
        int last = 0;
        for (int task = 0; task < many; task++) {
            last = x.guess(task, 1, 3);
        }
        return last;
    }

    // ---- promises 49, 50, 51

    private static Recorded withGuesses(int many) {
        Recorded x = alike(Math.max(1, many), 2);
        for (int task = 0; task < many; task++) {
            x.guess(task, 1, 3);
        }
        return x;
    }

    static void promise49_1WithoutGuesses() {
        Check.is("parts", new Recorded().allOdds(), 1L);
        Check.is("parts", full().allOdds(), 1L);
    }

    static void promise49_oneIs6() {
        Check.is("parts", withGuesses(1).allOdds(), 6L);
    }

    static void promise49_six() {
        Check.is("parts", withGuesses(6).allOdds(), 46656L);
    }

    static void promise49_moreThan6AreRefused() {
        Check.fails(NEVER, withGuesses(7), y -> y.allOdds());
        Check.fails(NEVER, withGuesses(20), y -> y.allOdds());
    }

    static void promise50_withoutGuesses() {
        Recorded x = row(2, 5, 1);
        Check.is("an hour ahead of the end", x.oddsBy(10), 0L);
        Check.is("the end", x.oddsBy(11), 1L);
    }

    static void promise50_withoutTasks() {
        Check.is("the time 0", new Recorded().oddsBy(0), 1L);
        Check.is("below 0", new Recorded().oddsBy(-1), 0L);
    }

    static void promise50_theLeastAndTheGreatestTime() {
        Check.is("the least", withGuesses(6).oddsBy(LEAST), 0L);
        Check.is("the greatest", withGuesses(6).oddsBy(MOST), 46656L);
        Check.is("the least", new Recorded().oddsBy(LEAST), 0L);
        Check.is("the greatest", new Recorded().oddsBy(MOST), 1L);
    }

    static void promise50_justTheLengths() {
        Recorded x = with(5);
        x.guess(0, 3, 9);
        long[] due = {0, 0, 0, 1, 1, 5, 5, 5, 5, 6, 6};
        for (int time = 0; time < due.length; time++) {
            Check.is("odds by " + time, x.oddsBy(time), due[time]);
        }
    }

    static void promise50_alongARow() {
        Recorded x = row(2, 5, 1);
        x.guess(0, 3, 9);
        long[] due = {0, 1, 1, 5, 5, 5, 5, 6};
        for (int time = 8; time <= 15; time++) {
            Check.is("odds by " + time, x.again().oddsBy(time), due[time - 8]);
        }
        Check.is("critical", x.oddsCritical(1), 6L);
    }

    static void promise50_theOwnLengthIsThatOfNow() {
        Recorded x = with(5);
        x.guess(0, 3, 9);
        x.set(0, 'l', 3);
        Check.is("as short as the least guess", x.oddsBy(3), 5L);
        Check.is("an hour less", x.oddsBy(2), 0L);
        x.set(0, 'l', 9);
        Check.is("as long as the greatest guess", x.oddsBy(8), 1L);
        Check.is("by its length", x.oddsBy(9), 6L);
    }

    static void promise50_six() {
        Check.is("all short", withGuesses(6).oddsBy(1), 1L);
        Check.is("none long", withGuesses(6).oddsBy(2), 15625L);
        Check.is("all", withGuesses(6).oddsBy(3), 46656L);
    }

    static void promise50_theLastSixOfTwenty() {
        Recorded x = alike(20, 2);
        for (int task = 14; task < 20; task++) {
            x.guess(task, 1, 3);
        }
        Check.is("an hour ahead of the others", x.oddsBy(1), 0L);
        Check.is("none long", x.oddsBy(2), 15625L);
        Check.is("the last is critical", x.oddsCritical(19), 7776L + 4 * 3125);
        Check.is("the first is critical", x.oddsCritical(0), 15625L);
    }

    static void promise50_moreThan6AreRefused() {
        refused(NEVER, withGuesses(7), Recorded::oddsBy, 0, 3, LEAST, MOST);
    }

    static void promise51_noSuchTask() {
        noTask(rich(), (y, task) -> y.oddsCritical(task));
        noTask(new Recorded(), (y, task) -> y.oddsCritical(task));
        noTask(full(), (y, task) -> y.oddsCritical(task));
    }

    static void promise51_withoutGuesses() {
        Recorded x = with(5, 4);
        Check.is("critical", x.oddsCritical(0), 1L);
        Check.is("not critical", x.oddsCritical(1), 0L);
    }

    static void promise51_byAnHour() {
        Recorded x = with(5, 5);
        x.guess(0, 4, 6);
        Check.is("the guessed one", x.oddsCritical(0), 5L);
        Check.is("the other one", x.oddsCritical(1), 5L);
    }

    static void promise51_six() {
        Check.is("if long, or none is, or all are short", withGuesses(6).oddsCritical(0), 7776L + 4 * 3125 + 1);
    }

    static void promise51_moreThan6AreRefused() {
        refused(NEVER, withGuesses(7), (y, task) -> y.oddsCritical(task), 0, 6);
    }

    static void promise51_noTaskGoesAheadOf7Guesses() {
        BiConsumer<Recorded, Integer> call = (y, task) -> y.oddsCritical(task);
        noTask(withGuesses(7), call);
    }
}
