/** The edges of promises 12 to 15: the signs of the text, and what it tells. */
public final class TextEdgesTest extends Edges {

    private static final String TWENTY = "1" + ";1".repeat(19);

    public static void main(String[] args) {
        Check.runAll(TextEdgesTest.class);
    }

    private static Recorded ofSigns(String signs) {
        Recorded x = new Recorded();
        typeAll(x, signs);
        return x;
    }

    // ---- promise 12

    static void promise12_theCode32IsTheLeast() {
        Recorded x = new Recorded();
        Check.is("signs", x.type((char) 32), 1);
        Check.is("sign", x.signAt(0), ' ');
    }

    static void promise12_theCode126IsTheGreatest() {
        Recorded x = new Recorded();
        Check.is("signs", x.type((char) 126), 1);
        Check.is("sign", x.signAt(0), '~');
    }

    static void promise12_allCodesBetweenAreTaken() {
        Recorded x = new Recorded();
        for (char sign = 32; sign <= 126; sign++) {
            x.erase();
            Check.is("signs", x.type(sign), 1);
            Check.is("sign", x.signAt(0), sign);
        }
    }

    static void promise12_aCodeBelow32IsRefused() {
        String low = "" + (char) 31 + (char) 10 + (char) 0;
        refusedSigns(BAD, new Recorded(), Recorded::type, low);
        refusedSigns(BAD, rich(), Recorded::type, low);
    }

    static void promise12_aCodeAbove126IsRefused() {
        String high = "" + (char) 127 + (char) 128 + (char) 255 + (char) (256 + '1') + (char) 32768 + (char) 65535;
        refusedSigns(BAD, new Recorded(), Recorded::type, high);
        refusedSigns(BAD, rich(), Recorded::type, high);
    }

    static void promise12_the80thSignIsTaken() {
        Recorded x = ofSigns("1".repeat(79));
        Check.is("signs", x.type('2'), 80);
        Check.is("sign", x.signAt(79), '2');
    }

    static void promise12_an81stSignIsRefused() {
        refusedSigns(STATE, ofSigns("1".repeat(80)), Recorded::type, " 1~");
    }

    static void promise12_theCodeGoesAheadOfTheFullText() {
        refusedSigns(BAD, ofSigns("1".repeat(80)), Recorded::type, "" + (char) 31 + (char) 127 + (char) 65535);
    }

    static void promise12_theFirstSignBehindErase() {
        Recorded x = ofSigns("1".repeat(80));
        x.erase();
        Check.is("signs", x.type('2'), 1);
        Check.is("sign", x.signAt(0), '2');
    }

    static void promise12_theFirstSignBehindRead() {
        Recorded x = ofSigns("1".repeat(80));
        x.read();
        Check.is("signs", x.type('2'), 1);
        Check.fails(PLACE, x, y -> y.signAt(1));
    }

    // ---- promise 13

    static void promise13_theEmptyTextHad0() {
        Check.is("erased", new Recorded().erase(), 0);
        Recorded x = ofSigns("1");
        x.erase();
        Check.is("erased again", x.erase(), 0);
    }

    static void promise13_oneSign() {
        Check.is("erased", ofSigns(" ").erase(), 1);
    }

    static void promise13_theFullTextHad80() {
        Check.is("erased", ofSigns("1".repeat(80)).erase(), 80);
    }

    static void promise13_aRefusedSignIsNotCounted() {
        Recorded x = ofSigns("1".repeat(80));
        Check.answer(() -> x.type('1'));
        Check.is("erased", x.erase(), 80);
    }

    // ---- promise 14

    static void promise14_theEmptyTextHasNoPlace() {
        refused(PLACE, new Recorded(), Recorded::signAt, 0, -1, 1, LEAST, MOST);
    }

    static void promise14_noSuchPlace() {
        refused(PLACE, rich(), Recorded::signAt, -1, 3, 80, LEAST, MOST);
    }

    static void promise14_theFirstAndTheLastOfAFullText() {
        Recorded x = ofSigns("~" + "1".repeat(78) + " ");
        Check.is("the first", x.signAt(0), '~');
        Check.is("the last", x.signAt(79), ' ');
        refused(PLACE, x, Recorded::signAt, -1, 80, LEAST, MOST);
    }

    static void promise14_noPlaceBehindEraseAndRead() {
        Recorded x = ofSigns("12");
        x.erase();
        refused(PLACE, x, Recorded::signAt, 0, 1);
        typeAll(x, "12");
        x.read();
        refused(PLACE, x, Recorded::signAt, 0, 1);
    }

    // ---- promise 15: the fault

    /** Nothing but the text may be otherwise behind a fault. */
    private static void fault(String text, int place) {
        Check.is("read of " + text + " by a new object", readText(new Recorded(), text), -1 - place);
        Recorded x = rich();
        x.erase();
        String before = State.of(x);
        Check.is("read of " + text, readText(x, text), -1 - place);
        Check.is("the state behind " + text, State.of(x), before);
    }

    private static Recorded good(String text, int tasks) {
        Recorded x = rich();
        Check.is("read of " + text, readText(x, text), tasks);
        Check.is("tasks of " + text, x.tasks(), tasks);
        Check.is("signs behind " + text, x.again().erase(), 0);
        return x;
    }

    private static void lengthsAre(String text, int... lengths) {
        Recorded x = good(text, lengths.length);
        for (int task = 0; task < lengths.length; task++) {
            Check.is("length " + task + " of " + text, x.of(task, 'l'), lengths[task]);
        }
    }

    private static void needIs(String text, int number, int earlier, int later, int lag) {
        Recorded x = ofText(text);
        Check.is("needs of " + text, x.needs(), number + 1);
        Check.is("earlier of " + text, x.needAt(number, 'e'), earlier);
        Check.is("later of " + text, x.needAt(number, 'l'), later);
        Check.is("lag of " + text, x.needAt(number, 'g'), lag);
    }

    static void promise15_anEmptyTextEndsWhereANumberMustStand() {
        fault("", 0);
    }

    static void promise15_aLengthOf1IsTheLeast() {
        lengthsAre("1", 1);
    }

    static void promise15_aLengthOf60IsTheGreatest() {
        lengthsAre("60", 60);
    }

    static void promise15_aLengthOf0IsAFault() {
        fault("0", 0);
        fault("00", 0);
        fault("1;0", 2);
        fault("0".repeat(80), 0);
    }

    static void promise15_aLengthAbove60IsAFault() {
        fault("61", 0);
        fault("1;61", 2);
        fault("1;061", 2);
        fault("100", 0);
    }

    static void promise15_aLengthBeyondAllNumbersIsAFault() {
        fault("2147483647", 0);
        fault("2147483649", 0);
        fault("4294967297", 0);
        fault("18446744073709551617", 0);
        fault("1" + "0".repeat(79), 0);
        fault("9".repeat(80), 0);
        fault("1;" + "9".repeat(78), 2);
    }

    static void promise15_noughtsAheadAreDigitsOfTheNumber() {
        lengthsAre("0".repeat(79) + "1", 1);
        lengthsAre("0".repeat(78) + "60", 60);
        fault("0".repeat(78) + "61", 0);
    }

    static void promise15_aNeedOfTheFirstTask() {
        needIs("1;1:0", 0, 0, 1, 0);
        needIs("1;1:000", 0, 0, 1, 0);
        fault("1:0", 2);
        fault("1:1", 2);
    }

    static void promise15_aNeedOfTheTaskRightAhead() {
        needIs("1;1;1:1", 0, 1, 2, 0);
        needIs(TWENTY + ":18", 0, 18, 19, 0);
    }

    static void promise15_aNeedOfTheTaskItselfIsAFault() {
        fault("1;1:1", 4);
        fault("1;1;1:2", 6);
        fault(TWENTY + ":19", 40);
    }

    static void promise15_aNeedOfATaskBehindIsAFault() {
        fault("1;1:2;1", 4);
        fault("1;1:2", 4);
        fault("1;1:60", 4);
    }

    static void promise15_aNeedBeyondAllNumbersIsAFault() {
        fault("1;1:2147483648", 4);
        fault("1;1:4294967296", 4);
        fault("1;1:18446744073709551616", 4);
        fault("1;1:" + "9".repeat(76), 4);
    }

    static void promise15_theSameNeedTwiceIsAFault() {
        fault("1;1:0,0", 6);
        fault("1;1:0,00", 6);
        fault("1;1:0+3,0", 8);
        fault("1;1:0,0+3", 6);
        fault("1;1;1:1,0,1", 10);
        needIs("1;1:0;1:0", 1, 0, 2, 0);
    }

    static void promise15_aLagOf0() {
        needIs("1;1:0+0", 0, 0, 1, 0);
        needIs("1;1:0", 0, 0, 1, 0);
    }

    static void promise15_aLagOf30IsTheGreatest() {
        needIs("1;1:0+30", 0, 0, 1, 30);
        needIs("1;1:0+0030;1:1+29", 1, 1, 2, 29);
    }

    static void promise15_aLagAbove30IsAFault() {
        fault("1;1:0+31", 6);
        fault("1;1:0+031", 6);
        fault("1;1:0+60,0", 6);
    }

    static void promise15_aLagBeyondAllNumbersIsAFault() {
        fault("1;1:0+2147483648", 6);
        fault("1;1:0+4294967296", 6);
        fault("1;1:0+18446744073709551616", 6);
        fault("1;1:0+" + "9".repeat(74), 6);
    }

    static void promise15_twentyTasksAreRead() {
        good(TWENTY, 20);
    }

    static void promise15_a21stTaskIsAFault() {
        fault(TWENTY + ";1", 40);
        fault(TWENTY + ";001", 40);
        fault(TWENTY + ";1:0", 40);
    }

    static void promise15_a21stTaskThatIsNoTaskIsAFaultToo() {
        fault(TWENTY + ";0", 40);
        fault(TWENTY + ";61", 40);
        fault(TWENTY + ";", 40);
        fault(TWENTY + ";;", 40);
        fault(TWENTY + "1;1", 41);
    }

    static void promise15_aFaultAheadOfThe21stTask() {
        fault(TWENTY + ":19;1", 40);
        fault(TWENTY + "x1", 39);
        fault(TWENTY.replace("1;1;1;1;1;", "1;1:1;1;1;1;") + ";1", 4);
    }

    static void promise15_theTextEndsWhereALengthMustStand() {
        fault("1;", 2);
        fault("1;1:0;", 6);
    }

    static void promise15_theTextEndsWhereANeedMustStand() {
        fault("1:", 2);
        fault("1;1:", 4);
        fault("1;1;1:0,", 8);
        fault("1;1;1:0+1,", 10);
    }

    static void promise15_theTextEndsWhereALagMustStand() {
        fault("1;1:0+", 6);
    }

    static void promise15_theFullTextIsRead() {
        lengthsAre("0".repeat(76) + "1;60", 1, 60);
        needIs("1;1:" + "0".repeat(73) + "+30", 0, 0, 1, 30);
    }

    static void promise15_theFullTextEndsWhereANumberMustStand() {
        fault("0".repeat(78) + "1;", 80);
        fault("0".repeat(78) + "1:", 80);
    }

    static void promise15_theLastSignOfAFullTextCannotStand() {
        fault("0".repeat(78) + "1x", 79);
        fault("0".repeat(77) + "1;x", 79);
    }

    /** All signs but these are faults behind the text, at the place behind it. */
    private static void onlyThese(String text, String these) {
        for (char sign = 32; sign <= 126; sign++) {
            if (these.indexOf(sign) < 0) {
                Check.is("read of " + text + sign, readText(new Recorded(), text + sign), -1 - text.length());
            }
        }
    }

    static void promise15_onlyADigitBeginsANumber() {
        onlyThese("", "0123456789");
        onlyThese("1;", "0123456789");
        onlyThese("1;1:", "0123456789");
        onlyThese("1;1;1:0,", "0123456789");
        onlyThese("1;1:0+", "0123456789");
    }

    static void promise15_whatStandsBehindALength() {
        onlyThese("6", "0123456789:;");
        onlyThese("1;6", "0123456789:;");
    }

    static void promise15_whatStandsBehindANeed() {
        onlyThese("1;1:0", "0123456789+,;");
    }

    static void promise15_whatStandsBehindALag() {
        onlyThese("1;1:0+1", "0123456789,;");
    }

    static void promise15_signsOfTheRowWhereTheyCannotStand() {
        fault("1+1", 1);
        fault("1,1", 1);
        fault("1;1:0:0", 5);
        fault("1;1:0+1+1", 7);
        fault("1;1:0+1:1", 7);
        fault("1;;1", 2);
        fault("1::0", 2);
        fault("1;1:,0", 4);
        fault("1;1:0++1", 6);
        fault(";1", 0);
        fault(" 1", 0);
        fault("1 ", 1);
        fault("-1", 0);
        fault("1;1:0+-1", 6);
    }

    static void promise15_whicheverFaultIsAhead() {
        fault("61x", 0);
        fault("6x61", 1);
        fault("0;61", 0);
        fault("1;1:1,x", 4);
        fault("1;1:0+31x", 6);
        fault("1;1:0x+31", 5);
        fault("1;1:0+31,0", 6);
        fault("1;1:0,0+31", 6);
    }

    static void promise15_aFaultLeavesWhatWasReadAheadOfItOut() {
        Recorded x = new Recorded();
        readText(x, "1;2:0;x");
        Check.is("tasks", x.tasks(), 0);
        Check.is("needs", x.needs(), 0);
        Check.fails(NONE, x, y -> y.undo());
        Check.is("tasks of the next text", readText(x, "5"), 1);
        Check.is("needs of the next text", x.needs(), 0);
    }

    // ---- promise 15: without a fault

    static void promise15_theTextIsTakenAway() {
        Check.is("signs", good("1;1", 2).erase(), 0);
    }

    static void promise15_theBookHasNothingElse() {
        Recorded x = good("5;6;7;8;9", 5);
        Check.is("needs", x.needs(), 0);
        for (int task = 0; task < 5; task++) {
            Check.is("length", x.of(task, 'l'), 5 + task);
            Check.is("machine", x.of(task, 'm'), -1);
            for (char letter : "scpzwd".toCharArray()) {
                Check.is("of " + letter, x.of(task, letter), 0);
            }
        }
        Check.is("guessed", x.allOdds(), 1L);
        Check.is("shortened", x.leastEnd(), x.end());
    }

    static void promise15_theTypedListIsEmptyBehindIt() {
        Check.is("typed", good("1;1;1;1", 4).wipe(), 0);
        Check.is("the list by what is typed", good("1;1;1;1", 4).listed('t', 0), 0);
    }

    static void promise15_thePlanIsGoneBehindIt() {
        Check.fails(STATE, good("3;4:0+1;5:0;2:1,2", 4), y -> y.planEnd());
    }

    static void promise15_aSmallerBookInPlaceOfTheFullOne() {
        Recorded x = fullOfNeeds();
        Check.is("tasks", readText(x, "9"), 1);
        Check.is("needs", x.needs(), 0);
        Check.is("kept", x.undo(), 9);
        Check.is("tasks", x.tasks(), 12);
        Check.is("needs", x.needs(), 50);
    }
}
