import java.util.Arrays;
import java.util.function.Consumer;

/** The edges of promises 1 to 11: a new object, tasks, needs, and going back. */
public final class BookEdgesTest extends Edges {

    private static final String LETTERS = "lsmcpzwd";
    private static final int[] FIRST = {0, -1, 0, 0, 0, 0, 0};

    public static void main(String[] args) {
        Check.runAll(BookEdgesTest.class);
    }

    // ---- promise 1

    static void promise01_theBookIsEmpty() {
        Check.is("tasks", new Recorded().tasks(), 0);
        Check.is("needs", new Recorded().needs(), 0);
    }

    static void promise01_noBookIsKept() {
        Check.fails(NONE, new Recorded(), y -> y.undo());
    }

    static void promise01_thereIsNoPlan() {
        Check.fails("planEnd", STATE, new Recorded(), y -> y.planEnd());
        Check.fails("proofLength", STATE, new Recorded(), y -> y.proofLength());
        Check.fails("isProved", STATE, new Recorded(), y -> y.isProved());
    }

    static void promise01_theTextIsEmpty() {
        Check.fails(PLACE, new Recorded(), y -> y.signAt(0));
        Check.is("erased", new Recorded().erase(), 0);
    }

    static void promise01_allHoursOfAllCalendarsWork() {
        for (int calendar = 0; calendar < 4; calendar++) {
            Recorded x = new Recorded();
            for (int hour = 0; hour < 168; hour++) {
                Check.isTrue("work in the hour " + hour, x.isWork(calendar, hour));
            }
        }
    }

    static void promise01_eachSkillHasOneHand() {
        for (int skill = 0; skill < 3; skill++) {
            Check.is("hands of " + skill, new Recorded().hands(skill, 5), 1);
        }
    }

    static void promise01_theTypedListIsEmpty() {
        Check.is("typed", new Recorded().wipe(), 0);
    }

    static void promise01_noBeginIsKept() {
        Check.is("moved", new Recorded().moved(), 0);
    }

    static void promise01_twoObjectsShareNothing() {
        String before = State.of(new Recorded());
        rich();
        Check.is("a new object behind another one", State.of(new Recorded()), before);
    }

    /** An object is promised 512 calls. */
    static void promise01_the512thCallIsAnswered() {
        Recorded x = with(1);
        for (int call = 2; call < Recorded.MOST_CALLS; call++) {
            x.set(0, 'w', call);
        }
        Check.is("worth", x.of(0, 'w'), 511);
    }

    // ---- promise 2

    static void promise02_aLengthOf1IsTheLeast() {
        Recorded x = new Recorded();
        Check.is("number", x.task(1), 0);
        Check.is("length", x.of(0, 'l'), 1);
    }

    static void promise02_aLengthOf60IsTheGreatest() {
        Recorded x = new Recorded();
        Check.is("number", x.task(60), 0);
        Check.is("length", x.of(0, 'l'), 60);
    }

    static void promise02_aLengthBelow1IsRefused() {
        refused(BAD, new Recorded(), Recorded::task, 0, -1, LEAST);
        refused(BAD, rich(), Recorded::task, 0, -1, LEAST);
    }

    static void promise02_aLengthAbove60IsRefused() {
        refused(BAD, new Recorded(), Recorded::task, 61, MOST);
        refused(BAD, rich(), Recorded::task, 61, MOST);
    }

    static void promise02_the20thTaskIsTaken() {
        Recorded x = alike(19, 1);
        Check.is("number", x.task(60), 19);
        Check.is("length", x.of(19, 'l'), 60);
        Check.is("tasks", x.tasks(), 20);
    }

    static void promise02_a21stTaskIsRefused() {
        refused(STATE, full(), Recorded::task, 1, 60);
    }

    static void promise02_theLengthGoesAheadOfTheFullBook() {
        refused(BAD, full(), Recorded::task, 0, 61, LEAST, MOST);
    }

    static void promise02_aNewTaskHasNoMachineAndAllElse0() {
        Recorded x = with(7);
        for (int place = 1; place < 8; place++) {
            Check.is("of " + LETTERS.charAt(place), x.of(0, LETTERS.charAt(place)), FIRST[place - 1]);
        }
        Check.is("hours that it is shortened", x.shorten(0, 0, 0), 0);
        Check.is("guessed ones", x.allOdds(), 1L);
    }

    static void promise02_aTaskInThePlaceOfOneThatIsUndoneIsNew() {
        Recorded x = alike(19, 1);
        x.task(9);
        x.set(19, 's', 2);
        x.set(19, 'm', 2);
        x.set(19, 'w', 9);
        x.shorten(19, 5, 9);
        x.guess(19, 1, 60);
        for (int change = 0; change < 6; change++) {
            x.undo();
        }
        Check.is("number", x.task(6), 19);
        Check.is("skill", x.of(19, 's'), 0);
        Check.is("machine", x.of(19, 'm'), -1);
        Check.is("worth", x.of(19, 'w'), 0);
        Check.is("guessed ones", x.allOdds(), 1L);
        Check.is("hours that it is shortened", x.shorten(19, 0, 0), 0);
    }

    // ---- promise 3

    private static void range(char letter, int least, int greatest, int first) {
        Recorded x = with(30, 30);
        Check.is("before", x.set(0, letter, least), first);
        Check.is("the least", x.of(0, letter), least);
        Check.is("before", x.set(0, letter, greatest), least);
        Check.is("the greatest", x.of(0, letter), greatest);
        Check.is("of another task", x.of(1, letter), first);
        refused(BAD, x, (y, number) -> y.set(0, letter, number), least - 1, greatest + 1, LEAST, MOST);
        refused(BAD, rich(), (y, number) -> y.set(3, letter, number), least - 1, greatest + 1, LEAST, MOST);
    }

    static void promise03_aLengthIs1To60() {
        range('l', 1, 60, 30);
    }

    static void promise03_aSkillIs0To2() {
        range('s', 0, 2, 0);
    }

    static void promise03_aMachineIs0To2OrNone() {
        range('m', -1, 2, -1);
    }

    static void promise03_aCalendarIs0To3() {
        range('c', 0, 3, 0);
    }

    static void promise03_aProjectIs0Or1() {
        range('p', 0, 1, 0);
    }

    static void promise03_itPauses1Or0() {
        range('z', 0, 1, 0);
    }

    static void promise03_aWorthIs0To9999() {
        range('w', 0, 9999, 0);
    }

    static void promise03_whatIsDoneIs0To100() {
        range('d', 0, 100, 0);
    }

    static void promise03_noSuchTask() {
        noTask(rich(), (y, task) -> y.set(task, 'w', 1));
        noTask(full(), (y, task) -> y.set(task, 'l', 2));
        noTask(new Recorded(), (y, task) -> y.set(task, 'l', 2));
    }

    static void promise03_noSuchLetter() {
        refusedSigns(BAD, rich(), (y, letter) -> y.set(0, letter, 1), lettersBut(LETTERS));
    }

    static void promise03_noTaskGoesAheadOfALetterAndANumber() {
        noTask(rich(), (y, task) -> y.set(task, 'x', MOST));
        noTask(rich(), (y, task) -> y.set(task, 'l', 0));
    }

    static void promise03_aLengthIsGreaterThanTheHoursThatItIsShortened() {
        Recorded x = with(9, 9);
        x.shorten(0, 5, 1);
        refused(BAD, x, (y, length) -> y.set(0, 'l', length), 5, 4, 1);
        Check.is("an hour more", x.set(0, 'l', 6), 9);
        Check.is("of another task", x.set(1, 'l', 1), 9);
        x.shorten(0, 1, 1);
        refused(BAD, x, (y, length) -> y.set(0, 'l', length), 1);
        Check.is("an hour more", x.set(0, 'l', 2), 6);
        x.shorten(0, 0, 99);
        Check.is("not shortened", x.set(0, 'l', 1), 2);
    }

    static void promise03_aLengthIsNotOutsideOfItsGuesses() {
        Recorded x = with(9, 9);
        x.guess(0, 7, 12);
        refused(BAD, x, (y, length) -> y.set(0, 'l', length), 6, 13, 1, 60);
        Check.is("the least guess", x.set(0, 'l', 7), 9);
        Check.is("the greatest guess", x.set(0, 'l', 12), 7);
        Check.is("of another task", x.set(1, 'l', 60), 9);
    }

    static void promise03_aGuessOfTheLengthAloneLeavesNoOther() {
        Recorded x = with(9);
        x.guess(0, 9, 9);
        refused(BAD, x, (y, length) -> y.set(0, 'l', length), 8, 10);
        Check.is("the same", x.set(0, 'l', 9), 9);
    }

    static void promise03_guessesOf1And60LeaveAllLengths() {
        Recorded x = with(9);
        x.guess(0, 1, 60);
        Check.is("the least", x.set(0, 'l', 1), 9);
        Check.is("the greatest", x.set(0, 'l', 60), 1);
    }

    static void promise03_shorteningAndGuessesBindTheLengthAlone() {
        Recorded x = with(9);
        x.shorten(0, 5, 1);
        x.guess(0, 8, 9);
        for (int place = 1; place < 8; place++) {
            Check.is("before", x.set(0, LETTERS.charAt(place), 1), FIRST[place - 1]);
            Check.is("before", x.set(0, LETTERS.charAt(place), 0), 1);
        }
    }

    static void promise03_theSameNumberKeepsTheBookToo() {
        Recorded x = with(9);
        Check.is("before", x.set(0, 'l', 9), 9);
        Check.is("kept", x.undo(), 1);
    }

    // ---- promise 4

    static void promise04_noSuchTask() {
        noTask(rich(), (y, task) -> y.of(task, 'l'));
        noTask(new Recorded(), (y, task) -> y.of(task, 'l'));
        noTask(full(), (y, task) -> y.of(task, 'd'));
    }

    static void promise04_noSuchLetter() {
        refusedSigns(BAD, rich(), (y, letter) -> y.of(0, letter), lettersBut(LETTERS));
    }

    static void promise04_noTaskGoesAheadOfALetter() {
        noTask(rich(), (y, task) -> y.of(task, 'x'));
    }

    static void promise04_theFirstAndTheLastTaskOfAFullBook() {
        Recorded x = full();
        x.set(0, 'w', 1);
        x.set(19, 'w', 9999);
        Check.is("the first", x.of(0, 'w'), 1);
        Check.is("the last", x.of(19, 'w'), 9999);
    }

    // ---- promise 5

    static void promise05_theEmptyBookHas0() {
        Check.is("tasks", new Recorded().tasks(), 0);
        Recorded x = with(1);
        x.undo();
        Check.is("tasks behind undo", x.tasks(), 0);
    }

    static void promise05_theFullBookHas20() {
        Check.is("tasks", full().tasks(), 20);
    }

    static void promise05_aRefusedTaskIsNotCounted() {
        Recorded x = full();
        Check.answer(() -> x.task(1));
        Check.is("tasks", x.tasks(), 20);
        Recorded y = with(5);
        Check.answer(() -> y.task(61));
        Check.is("tasks", y.tasks(), 1);
    }

    // ---- promise 6

    static void promise06_aLagOf0IsTheLeast() {
        Recorded x = with(1, 1);
        Check.is("number", x.need(0, 1, 0), 0);
        Check.is("lag", x.needAt(0, 'g'), 0);
    }

    static void promise06_aLagOf30IsTheGreatest() {
        Recorded x = with(1, 1);
        Check.is("number", x.need(0, 1, 30), 0);
        Check.is("lag", x.needAt(0, 'g'), 30);
    }

    static void promise06_aLagOutOfRangeIsRefused() {
        refused(BAD, rich(), (y, lag) -> y.need(0, 3, lag), -1, 31, LEAST, MOST);
    }

    static void promise06_thereIsNoEarlierTask() {
        noTask(rich(), (y, task) -> y.need(task, 0, 0));
        noTask(new Recorded(), (y, task) -> y.need(task, 0, 0));
    }

    static void promise06_thereIsNoLaterTask() {
        noTask(rich(), (y, task) -> y.need(0, task, 0));
        noTask(full(), (y, task) -> y.need(0, task, 0));
    }

    static void promise06_thereIsNoTaskForEither() {
        refused(NONE, rich(), (y, task) -> y.need(task, task, 0), -1, 4, LEAST, MOST);
    }

    static void promise06_noTaskGoesAheadOfTheLag() {
        noTask(rich(), (y, task) -> y.need(task, 0, 31));
        noTask(rich(), (y, task) -> y.need(0, task, -1));
    }

    static void promise06_noTaskGoesAheadOf50Needs() {
        noTask(fullOfNeeds(), (y, task) -> y.need(task, 0, 0));
        noTask(fullOfNeeds(), (y, task) -> y.need(0, task, 0));
    }

    static void promise06_theSameOneTwiceIsRefused() {
        refused(BAD, rich(), (y, lag) -> y.need(0, 1, lag), 0, 1, 30);
    }

    static void promise06_oneThatNeedsItselfIsRefused() {
        Check.fails(BAD, with(1), y -> y.need(0, 0, 0));
        Check.fails(BAD, rich(), y -> y.need(2, 2, 0));
    }

    static void promise06_aRingOfTwoIsRefused() {
        Check.fails(BAD, rich(), y -> y.need(1, 0, 0));
    }

    static void promise06_aRingOfThreeIsRefused() {
        Check.fails(BAD, rich(), y -> y.need(3, 0, 0));
    }

    static void promise06_aRingOf20IsRefused() {
        Check.fails(BAD, row(20, 1, 0), y -> y.need(19, 0, 0));
    }

    static void promise06_aWayAroundIsNoRing() {
        Recorded x = row(20, 1, 0);
        Check.is("number", x.need(0, 19, 30), 19);
    }

    static void promise06_aNeedOfAGreaterNumberIsTaken() {
        Recorded x = with(1, 1);
        Check.is("number", x.need(1, 0, 0), 0);
        Check.fails(BAD, x, y -> y.need(0, 1, 0));
    }

    static void promise06_the50thNeedIsTaken() {
        Recorded x = fullOfNeeds();
        Check.is("needs", x.needs(), 50);
        Check.is("the last", x.needAt(49, 'e') * 100 + x.needAt(49, 'l'), 410);
    }

    static void promise06_a51stNeedIsRefused() {
        refused(STATE, fullOfNeeds(), (y, lag) -> y.need(10, 11, lag), 0, 30);
    }

    static void promise06_theLagGoesAheadOf50Needs() {
        refused(BAD, fullOfNeeds(), (y, lag) -> y.need(10, 11, lag), -1, 31);
    }

    static void promise06_theSameOneGoesAheadOf50Needs() {
        Check.fails(BAD, fullOfNeeds(), y -> y.need(0, 1, 0));
    }

    static void promise06_aRingGoesAheadOf50Needs() {
        Check.fails(BAD, fullOfNeeds(), y -> y.need(10, 0, 0));
        Check.fails(BAD, fullOfNeeds(), y -> y.need(11, 11, 0));
    }

    static void promise06_theOtherWayRoundBehindDropNeed() {
        Recorded x = with(1, 1);
        x.need(0, 1, 0);
        x.dropNeed(0);
        Check.is("number", x.need(1, 0, 0), 0);
    }

    static void promise06_oneMoreBehindDropNeedOfAFullBook() {
        Recorded x = fullOfNeeds();
        x.dropNeed(0);
        Check.is("number", x.need(10, 11, 0), 49);
        Check.fails(STATE, x, y -> y.need(0, 1, 0));
    }

    // ---- promise 7

    static void promise07_noSuchNeed() {
        refused(NONE, rich(), Recorded::dropNeed, -1, 4, LEAST, MOST);
        refused(NONE, fullOfNeeds(), Recorded::dropNeed, -1, 50, LEAST, MOST);
    }

    static void promise07_noNeedsAtAll() {
        refused(NONE, new Recorded(), Recorded::dropNeed, 0, -1);
        refused(NONE, with(1, 1), Recorded::dropNeed, 0);
    }

    private static int[] rowOfNeed(Recorded x, int number) {
        return new int[] {x.needAt(number, 'e'), x.needAt(number, 'l'), x.needAt(number, 'g')};
    }

    private static void areMovedDown(int dropped) {
        Recorded before = fullOfNeeds();
        Recorded x = fullOfNeeds();
        Check.is("left", x.dropNeed(dropped), 49);
        for (int number = 0; number < 49; number++) {
            int old = number < dropped ? number : number + 1;
            Check.isTrue("the need " + number, Arrays.equals(rowOfNeed(x, number), rowOfNeed(before, old)));
        }
        Check.fails("the last one's number", NONE, x, y -> y.needAt(49, 'e'));
    }

    static void promise07_allMoveDownBehindTheFirst() {
        areMovedDown(0);
    }

    static void promise07_someMoveDownBehindOneInTheMiddle() {
        areMovedDown(24);
    }

    static void promise07_noneMovesDownBehindTheLast() {
        areMovedDown(49);
    }

    static void promise07_theOnlyOneLeaves0() {
        Recorded x = with(1, 1);
        x.need(0, 1, 3);
        Check.is("left", x.dropNeed(0), 0);
        Check.is("end", x.end(), 1);
    }

    // ---- promise 8

    static void promise08_theEmptyBookHas0() {
        Check.is("needs", new Recorded().needs(), 0);
    }

    static void promise08_theFullBookHas50() {
        Check.is("needs", fullOfNeeds().needs(), 50);
    }

    static void promise08_aRefusedNeedIsNotCounted() {
        Recorded x = fullOfNeeds();
        Check.answer(() -> x.need(10, 11, 0));
        Check.is("needs", x.needs(), 50);
    }

    // ---- promise 9

    static void promise09_noSuchNeed() {
        refused(NONE, rich(), (y, number) -> y.needAt(number, 'e'), -1, 4, LEAST, MOST);
        refused(NONE, fullOfNeeds(), (y, number) -> y.needAt(number, 'e'), -1, 50, LEAST, MOST);
        refused(NONE, with(1, 1), (y, number) -> y.needAt(number, 'e'), 0, -1);
    }

    static void promise09_noSuchLetter() {
        refusedSigns(BAD, rich(), (y, letter) -> y.needAt(0, letter), lettersBut("elg"));
    }

    static void promise09_noNeedGoesAheadOfALetter() {
        refused(NONE, rich(), (y, number) -> y.needAt(number, 'x'), -1, 4, LEAST, MOST);
    }

    static void promise09_theFirstAndTheLastOfFifty() {
        Recorded x = fullOfNeeds();
        Check.is("the first", x.needAt(0, 'e') * 100 + x.needAt(0, 'l'), 1);
        Check.is("the last", x.needAt(49, 'e') * 100 + x.needAt(49, 'l'), 410);
    }

    // ---- promise 10

    static void promise10_oneAndItselfIs1() {
        Check.is("ring", with(1).ring(0, 0), 1);
        Check.is("ring", full().ring(19, 19), 1);
        Check.is("ring", row(20, 1, 0).ring(10, 10), 1);
    }

    static void promise10_twoIs2() {
        Check.is("ring", row(20, 1, 0).ring(1, 0), 2);
        Check.is("ring", row(20, 1, 30).ring(19, 18), 2);
    }

    static void promise10_theLongestIs20() {
        Check.is("ring", row(20, 1, 0).ring(19, 0), 20);
        Recorded back = full();
        for (int task = 1; task < 20; task++) {
            back.need(task, task - 1, 0);
        }
        Check.is("ring of the numbers backwards", back.ring(0, 19), 20);
    }

    static void promise10_theShortestOfSeveral() {
        Recorded x = row(20, 1, 0);
        x.need(0, 18, 0);
        Check.is("ring", x.ring(19, 0), 3);
        x.need(0, 19, 0);
        Check.is("ring", x.ring(19, 0), 2);
    }

    static void promise10_noneIs0() {
        Check.is("along the needs", row(20, 1, 0).ring(0, 19), 0);
        Check.is("a need that is there", row(20, 1, 0).ring(0, 1), 0);
        Check.is("without needs", full().ring(0, 19), 0);
    }

    static void promise10_noSuchTaskForEither() {
        noTask(rich(), (y, task) -> y.ring(task, 0));
        noTask(rich(), (y, task) -> y.ring(0, task));
        refused(NONE, rich(), (y, task) -> y.ring(task, task), -1, 4, LEAST, MOST);
        noTask(new Recorded(), (y, task) -> y.ring(task, task));
    }

    static void promise10_nothingIsToldByIt() {
        Recorded x = rich();
        String before = State.of(x);
        x.ring(0, 3);
        x.ring(3, 0);
        Check.is("the state behind it", State.of(x), before);
    }

    // ---- promise 11

    private static void allAreUndone(Recorded x, int kept) {
        for (int left = kept - 1; left >= 0; left--) {
            Check.is("kept", x.undo(), left);
        }
        Check.fails("one more", NONE, x, y -> y.undo());
    }

    static void promise11_noneIsKeptAtFirst() {
        allAreUndone(new Recorded(), 0);
    }

    static void promise11_oneIsKept() {
        Recorded x = with(1);
        allAreUndone(x, 1);
        Check.is("tasks", x.tasks(), 0);
    }

    static void promise11_tenAreKept() {
        Recorded x = alike(10, 1);
        allAreUndone(x, 10);
        Check.is("tasks", x.tasks(), 0);
    }

    static void promise11_ofElevenTheOldestIsForgotten() {
        Recorded x = alike(11, 1);
        allAreUndone(x, 10);
        Check.is("tasks", x.tasks(), 1);
    }

    static void promise11_thirtyFiveGoRound() {
        Recorded x = with(1);
        for (int worth = 1; worth <= 35; worth++) {
            x.set(0, 'w', worth);
        }
        for (int worth = 34; worth >= 25; worth--) {
            x.undo();
            Check.is("worth", x.of(0, 'w'), worth);
        }
        Check.fails(NONE, x, y -> y.undo());
    }

    static void promise11_changesBehindItAreKeptAnew() {
        Recorded x = alike(12, 1);
        x.undo();
        x.undo();
        Check.is("kept", x.undo(), 7);
        x.task(2);
        x.task(2);
        x.task(2);
        x.task(2);
        allAreUndone(x, 10);
        Check.is("tasks", x.tasks(), 3);
    }

    static void promise11_itIsNotKeptItself() {
        Recorded x = with(1, 2);
        Check.is("kept", x.undo(), 1);
        Check.is("kept", x.undo(), 0);
        Check.is("tasks", x.tasks(), 0);
    }

    private static void isUndone(Consumer<Recorded> call) {
        Recorded x = ofText("3;4:0+1;5:0;2:1,2");
        x.shorten(0, 2, 7);
        x.guess(1, 2, 6);
        String before = State.of(x);
        call.accept(x);
        Check.is("kept", x.undo(), 3);
        Check.is("the state behind it", State.of(x), before);
    }

    static void promise11_eachCallOfTheBookIsKept() {
        isUndone(x -> x.task(5));
        isUndone(x -> x.set(3, 'l', 5));
        isUndone(x -> x.set(0, 'm', 0));
        isUndone(x -> x.need(0, 3, 0));
        isUndone(x -> x.dropNeed(0));
        isUndone(x -> x.shorten(0, 1, 8));
        isUndone(x -> x.shorten(0, 0, 0));
        isUndone(x -> x.guess(1, 1, 7));
        isUndone(x -> x.guess(0, 1, 7));
        isUndone(x -> readText(x, "1"));
    }

    static void promise11_aCallThatTellsTheSameIsKeptToo() {
        isUndone(x -> x.set(0, 's', 0));
        isUndone(x -> x.shorten(0, 2, 7));
        isUndone(x -> x.guess(1, 2, 6));
        isUndone(x -> readText(x, "3;4:0+1;5:0;2:1,2"));
    }

    static void promise11_readWithAFaultIsNotKept() {
        Recorded x = with(1);
        readText(x, "1;");
        Check.is("kept", x.undo(), 0);
    }

    static void promise11_noOtherCallIsKept() {
        Recorded x = with(1);
        x.type('1');
        x.erase();
        x.hours(0, 0, 1, false);
        x.hands(0, 5);
        x.list(0);
        x.wipe();
        x.plan('n', 'p');
        x.keep();
        Check.is("kept", x.undo(), 0);
    }

    static void promise11_theBookAloneGoesBack() {
        Recorded x = rich();
        x.undo();
        Check.is("text", x.again().erase(), 3);
        Check.isTrue("hours", !x.isWork(1, 0) && !x.isWork(3, 167));
        Check.is("hands", x.again().hands(1, 1), 3);
        Check.is("kept begins", x.movedBy(1), 1);
    }

    static void promise11_theTypedListIsEmptyBehindIt() {
        Recorded x = rich();
        x.undo();
        Check.is("typed", x.again().wipe(), 0);
        Check.is("the list by what is typed", x.listed('t', 0), 0);
    }

    static void promise11_thePlanIsGoneBehindIt() {
        Recorded x = rich();
        x.undo();
        Check.fails(STATE, x, y -> y.planEnd());
    }

    static void promise11_refusedItLeavesTheTypedListAndThePlan() {
        Recorded x = alike(11, 1);
        allAreUndone(x, 10);
        x.list(0);
        x.plan('t', 's');
        Check.fails(NONE, x, y -> y.undo());
        Check.is("typed", x.again().wipe(), 1);
        Check.is("plan", x.planEnd(), 1);
    }
}
