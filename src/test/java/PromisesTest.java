/** For each promise what it says, its edges, and what it throws. */
public final class PromisesTest extends Edges {

    public static void main(String[] args) {
        newObject();
        tasksAndFacts();
        needsAndRings();
        undoing();
        typing();
        reading();
        readingFaults();
        plainPlan();
        slacks();
        longestChains();
        calendars();
        byTheClock();
        handsAndLists();
        freeHands();
        oneAfterAnother();
        plansStay();
        proofs();
        likeHands();
        anomalies();
        levels();
        shortening();
        guessing();
        worth();
        changes();
        craneOrders();
        figures();
        theorem();
        Check.close();
    }

    private static void newObject() {
        Check.promise(1);
        Recorded x = new Recorded();
        Check.is("tasks", x.tasks(), 0);
        Check.is("needs", x.needs(), 0);
        Check.is("end", x.end(), 0);
        Check.is("signs", x.erase(), 0);
        Check.is("typed", x.wipe(), 0);
        Check.is("moved", x.moved(), 0);
        Check.fails(STATE, x, y -> y.planEnd());
        Check.fails(NONE, x, y -> y.undo());
        for (int calendar = 0; calendar < 4; calendar++) {
            Recorded other = new Recorded();
            for (int hour = 0; hour < 168; hour++) {
                Check.isTrue("work", other.isWork(calendar, hour));
            }
        }
        for (int skill = 0; skill < 3; skill++) {
            Check.is("hands", x.hands(skill, 1), 1);
        }
    }

    private static void tasksAndFacts() {
        Check.promise(2);
        Recorded x = new Recorded();
        Check.fails(BAD, x, y -> y.task(0));
        Check.fails(BAD, x, y -> y.task(61));
        Check.fails(BAD, x, y -> y.task(Integer.MIN_VALUE));
        for (int number = 0; number < 20; number++) {
            Check.is("number", x.task(number == 0 ? 60 : 1), number);
        }
        Check.fails(STATE, x, y -> y.task(1));
        Check.fails(BAD, x, y -> y.task(0));

        Check.promise(4);
        String letters = "lsmcpzwd";
        int[] first = {60, 0, -1, 0, 0, 0, 0, 0};
        for (int place = 0; place < 8; place++) {
            Check.is("of a new task", x.of(0, letters.charAt(place)), first[place]);
        }
        Check.fails(NONE, x, y -> y.of(20, 'l'));
        Check.fails(NONE, x, y -> y.of(-1, 'x'));
        Check.fails(BAD, x, y -> y.of(0, 'x'));
        Check.fails(BAD, x, y -> y.of(0, (char) 364));

        Check.promise(3);
        int[] least = {1, 0, -1, 0, 0, 0, 0, 0};
        int[] greatest = {60, 2, 2, 3, 1, 1, 9999, 100};
        for (int place = 0; place < 8; place++) {
            char letter = letters.charAt(place);
            int low = least[place];
            int high = greatest[place];
            Check.is("before " + letter, x.set(0, letter, high), first[place]);
            Check.is("before " + letter, x.set(0, letter, low), high);
            Check.is("of " + letter, x.of(0, letter), low);
            Check.fails(BAD, x, y -> y.set(0, letter, low - 1));
            Check.fails(BAD, x, y -> y.set(0, letter, high + 1));
            Check.is("of another", x.of(1, letter), place == 0 ? 1 : first[place]);
        }
        Check.fails(NONE, x, y -> y.set(20, 'x', 0));
        Check.fails(NONE, x, y -> y.set(-1, 'l', 0));
        Check.fails(BAD, x, y -> y.set(0, 'x', 0));
        Recorded z = with(6);
        z.shorten(0, 3, 1);
        Check.fails(BAD, z, y -> y.set(0, 'l', 3));
        Check.is("length", z.set(0, 'l', 4), 6);
        z.guess(0, 2, 6);
        Check.fails(BAD, z, y -> y.set(0, 'l', 7));
        Check.is("length", z.set(0, 'l', 6), 4);
        z.shorten(0, 0, 1);
        Check.fails(BAD, z, y -> y.set(0, 'l', 1));
        Check.is("length", z.set(0, 'l', 2), 6);

        Check.promise(5);
        Check.is("tasks", x.tasks(), 20);
        Check.is("tasks", z.tasks(), 1);
    }

    private static void needsAndRings() {
        Check.promise(6);
        Recorded x = with(1, 2, 3, 4);
        Check.is("number", x.need(0, 1, 0), 0);
        Check.is("number", x.need(1, 2, 30), 1);
        Check.is("a way around", x.need(0, 2, 0), 2);
        Check.fails(NONE, x, y -> y.need(4, 0, 99));
        Check.fails(NONE, x, y -> y.need(0, -1, 0));
        Check.fails(BAD, x, y -> y.need(0, 3, 31));
        Check.fails(BAD, x, y -> y.need(0, 3, -1));
        Check.fails(BAD, x, y -> y.need(0, 1, 5));
        Check.fails(BAD, x, y -> y.need(3, 3, 0));
        Check.fails(BAD, x, y -> y.need(2, 0, 0));
        Check.fails(BAD, x, y -> y.need(1, 0, 0));

        Check.promise(8);
        Check.is("needs", x.needs(), 3);

        Check.promise(9);
        Check.is("earlier", x.needAt(1, 'e'), 1);
        Check.is("later", x.needAt(1, 'l'), 2);
        Check.is("lag", x.needAt(1, 'g'), 30);
        Check.fails(NONE, x, y -> y.needAt(3, 'x'));
        Check.fails(NONE, x, y -> y.needAt(-1, 'e'));
        Check.fails(BAD, x, y -> y.needAt(0, 'x'));

        Check.promise(10);
        Check.is("one and itself", x.ring(3, 3), 1);
        Check.is("the shortest", x.ring(2, 0), 2);
        Check.is("two", x.ring(1, 0), 2);
        Check.is("none along a need", x.ring(0, 2), 0);
        Check.is("none", x.ring(3, 0), 0);
        Check.fails(NONE, x, y -> y.ring(4, 0));
        Check.fails(NONE, x, y -> y.ring(0, 4));
        Recorded row = with(1, 1, 1, 1, 1, 1, 1, 1, 1, 1, 1, 1, 1, 1, 1, 1, 1, 1, 1, 1);
        for (int task = 19; task > 0; task--) {
            row.need(task, task - 1, 0);
        }
        Check.is("a long ring", row.ring(0, 19), 20);

        Check.promise(7);
        Check.fails(NONE, x, y -> y.dropNeed(3));
        Check.fails(NONE, x, y -> y.dropNeed(-1));
        Check.is("left", x.dropNeed(0), 2);
        Check.is("moved down", x.needAt(0, 'e') * 10 + x.needAt(0, 'l'), 12);
        Check.is("moved down", x.needAt(0, 'g'), 30);
        Check.is("moved down", x.needAt(1, 'l'), 2);
        Check.is("left", x.dropNeed(1), 1);
        Check.is("left", x.dropNeed(0), 0);
        Check.fails(NONE, x, y -> y.dropNeed(0));
        manyNeeds();
    }

    private static void manyNeeds() {
        Check.promise(6);
        Recorded x = with(1, 1, 1, 1, 1, 1, 1, 1, 1, 1, 1, 1);
        for (int later = 1; later < 12; later++) {
            for (int earlier = 0; earlier < later && x.needs() < 50; earlier++) {
                Check.is("number", x.need(earlier, later, 0), x.needs() - 1);
            }
        }
        Check.is("needs", x.needs(), 50);
        Check.fails(STATE, x, y -> y.need(10, 11, 0));
        Check.fails(BAD, x, y -> y.need(0, 1, 0));
        Check.fails(BAD, x, y -> y.need(10, 11, 31));
        Check.fails(NONE, x, y -> y.need(12, 11, 31));
        Check.is("left", x.dropNeed(49), 49);
        Check.is("number", x.need(10, 11, 0), 49);
    }

    private static void undoing() {
        Check.promise(11);
        Recorded x = new Recorded();
        Check.fails(NONE, x, y -> y.undo());
        x.task(5);
        x.task(6);
        x.need(0, 1, 2);
        x.set(0, 'l', 9);
        x.set(0, 'l', 9);
        x.shorten(0, 2, 3);
        x.guess(0, 8, 10);
        x.dropNeed(0);
        typeAll(x, "7;8");
        Check.is("read", x.read(), 2);
        Check.is("length", x.of(0, 'l'), 7);
        Check.is("kept", x.undo(), 8);
        Check.is("length", x.of(0, 'l'), 9);
        Check.is("needs", x.needs(), 0);
        Check.is("kept", x.undo(), 7);
        Check.is("needs", x.needs(), 1);
        Check.is("odds", x.allOdds(), 6L);
        Check.is("kept", x.undo(), 6);
        Check.is("odds", x.allOdds(), 1L);
        Check.is("least end", x.leastEnd(), 15);
        Check.is("kept", x.undo(), 5);
        Check.is("least end", x.leastEnd(), 17);
        Check.is("kept, though like before", x.undo(), 4);
        Check.is("length", x.of(0, 'l'), 9);
        Check.is("kept", x.undo(), 3);
        Check.is("length", x.of(0, 'l'), 5);
        Check.is("kept", x.undo(), 2);
        Check.is("kept", x.undo(), 1);
        Check.is("tasks", x.tasks(), 1);
        Check.is("kept", x.undo(), 0);
        Check.is("tasks", x.tasks(), 0);
        Check.fails(NONE, x, y -> y.undo());
        for (int task = 0; task < 13; task++) {
            x.task(1);
        }
        Check.answer(() -> x.task(0));
        Check.answer(() -> x.set(0, 'l', 61));
        Check.is("ten at most", x.undo(), 9);
        for (int left = 8; left >= 0; left--) {
            Check.is("kept", x.undo(), left);
        }
        Check.is("the oldest are forgotten", x.tasks(), 3);
        Check.fails(NONE, x, y -> y.undo());
        x.task(4);
        x.list(3);
        x.list(1);
        x.plan('t', 'p');
        Check.is("kept", x.undo(), 0);
        Check.is("the typed list", x.wipe(), 0);
        Check.fails(STATE, x, y -> y.planEnd());
        x.list(1);
        x.plan('t', 'p');
        Check.fails(NONE, x, y -> y.undo());
        Check.is("the typed list", x.wipe(), 1);
    }

    private static void typing() {
        Check.promise(12);
        Recorded x = new Recorded();
        Check.fails(BAD, x, y -> y.type((char) 31));
        Check.fails(BAD, x, y -> y.type((char) 127));
        Check.fails(BAD, x, y -> y.type((char) 65535));
        for (int many = 1; many <= 80; many++) {
            Check.is("signs", x.type((char) (many % 2 == 0 ? 32 : 126)), many);
        }
        Check.fails(STATE, x, y -> y.type('1'));
        Check.fails(BAD, x, y -> y.type((char) 0));

        Check.promise(14);
        Check.is("sign", x.signAt(0), (char) 126);
        Check.is("sign", x.signAt(79), (char) 32);
        Check.fails(PLACE, x, y -> y.signAt(80));
        Check.fails(PLACE, x, y -> y.signAt(-1));

        Check.promise(13);
        Check.is("erased", x.erase(), 80);
        Check.is("erased", x.erase(), 0);
        Check.fails(PLACE, x, y -> y.signAt(0));
        Check.is("signs", x.type('a'), 1);
        Check.is("sign", x.signAt(0), 'a');
    }

    private static void reading() {
        Check.promise(15);
        Recorded x = with(9, 9, 9);
        x.set(0, 'w', 9);
        x.need(0, 1, 0);
        x.shorten(2, 2, 2);
        x.guess(2, 2, 20);
        x.list(2);
        x.plan('n', 'p');
        Check.is("tasks", readText(x, "60;05:0+30;1:0,1+0;2"), 4);
        Check.is("lengths", x.of(0, 'l') * 1000 + x.of(1, 'l') * 100 + x.of(2, 'l') * 10 + x.of(3, 'l'), 60512);
        Check.is("needs", x.needs(), 3);
        Check.is("lag", x.needAt(0, 'g'), 30);
        Check.is("the row of needs", x.needAt(1, 'e') * 100 + x.needAt(1, 'l') * 10 + x.needAt(1, 'g'), 20);
        Check.is("the row of needs", x.needAt(2, 'e') * 100 + x.needAt(2, 'l') * 10 + x.needAt(2, 'g'), 120);
        Check.is("the text is taken away", x.erase(), 0);
        Check.is("nothing else", x.of(0, 'w'), 0);
        Check.is("no machine", x.of(0, 'm'), -1);
        Check.is("nothing guessed", x.allOdds(), 1L);
        Check.is("nothing shortened", x.leastEnd(), x.end());
        Check.is("the typed list", x.wipe(), 0);
        Check.fails(STATE, x, y -> y.planEnd());
        Check.is("kept", x.undo(), 7);
        Check.is("tasks", x.tasks(), 3);
        Check.is("guessed", x.allOdds(), 6L);
        Check.is("twenty", readText(x, "1;1;1;1;1;1;1;1;1;1;1;1;1;1;1;1;1;1;1;1"), 20);
        Check.is("noughts ahead", readText(x, "000000000000000000000000000000000000000000060:".replace(":", ";1:000+0030")), 2);
        Check.is("length", x.of(0, 'l'), 60);
        Check.is("eighty signs",
                readText(x, "1;1:0;1:0,1;1:0,1,2;1:0,1,2,3;1:0,1,2,3,4;1:0,1,2,3,4,5;1:0,1,2,3,4,5,6;10:0+1"), 9);
        Check.is("needs", x.needs(), 29);
    }

    private static void fault(String text, int place) {
        Recorded x = with(3, 4);
        x.need(0, 1, 1);
        x.list(1);
        x.plan('t', 'p');
        x.keep();
        String before = State.of(x);
        Check.is("read of " + text, readText(x, text), -1 - place);
        Check.is("signs", x.erase(), 0);
        Check.is("the state behind a fault", State.of(x), before);
        Check.is("kept", x.undo(), 2);
    }

    private static void readingFaults() {
        fault("", 0);
        fault(" 1", 0);
        fault("x", 0);
        fault("0", 0);
        fault("61", 0);
        fault("61x", 0);
        fault("5x", 1);
        fault("5 ;6", 1);
        fault("5+3", 1);
        fault("5,6", 1);
        fault("5;", 2);
        fault("5;;6", 2);
        fault("5:", 2);
        fault("5:0", 2);
        fault("5;6:1", 4);
        fault("5;6:2", 4);
        fault("5;6:x", 4);
        fault("5;6:0,", 6);
        fault("5;6:0,0", 6);
        fault("5;6:0+1,00", 8);
        fault("5;6:0+", 6);
        fault("5;6:0+31", 6);
        fault("5;6:0+30+1", 8);
        fault("5;6:0+x", 6);
        fault("5;6:0:0", 5);
        fault("5;6:-1", 4);
        fault("5;6:0;7:0,1,0;99", 12);
        fault("5;60000000000000000000000000000000000000000000000000000000000", 2);
        fault("5;4294967301", 2);
        fault("5;6:4294967296", 4);
        fault("5;6:0+4294967296", 6);
        fault("1;1;1;1;1;1;1;1;1;1;1;1;1;1;1;1;1;1;1;1;1", 40);
        fault("1;1;1;1;1;1;1;1;1;1;1;1;1;1;1;1;1;1;1;1;007:0", 40);
        fault("1;1;1;1;1;1;1;1;1;1;1;1;1;1;1;1;1;1;1;1;", 40);
        fault("1;1;1;1;1;1;1;1;1;1;1;1;1;1;1;1;1;1;1;1;:", 40);
        fault("1;1;1;1;1;1;1;1;1;1;1;1;1;1;1;1;1;1;1;1x", 39);
    }

    private static void plainPlan() {
        Recorded x = ofText("3;2:0+1;5;1:1,2+4");
        Check.promise(16);
        Check.is("earliest", x.earliest(0), 0);
        Check.is("earliest", x.earliest(1), 4);
        Check.is("earliest", x.earliest(3), 9);
        Check.fails(NONE, x, y -> y.earliest(4));
        Check.fails(NONE, x, y -> y.earliest(-1));
        Check.promise(17);
        Check.is("latest", x.latest(0), 3);
        Check.is("latest", x.latest(1), 7);
        Check.is("latest", x.latest(2), 0);
        Check.fails(NONE, x, y -> y.latest(4));
        Check.promise(18);
        Check.is("end", x.end(), 10);
        Check.is("end", new Recorded().end(), 0);
        Check.promise(20);
        Check.is("rest", x.rest(0), 7);
        Check.is("rest", x.rest(2), 10);
        Check.is("rest", x.rest(3), 1);
        Check.fails(NONE, x, y -> y.rest(4));
        Recorded back = with(2, 3, 4);
        back.need(2, 1, 5);
        back.need(1, 0, 0);
        Check.promise(16);
        Check.is("a need of a later number", back.earliest(0), 12);
        Check.promise(17);
        Check.is("a need of a later number", back.latest(2), 0);
        back.set(1, 'm', 0);
        back.set(0, 'm', 0);
        back.hours(0, 0, 100, false);
        Check.promise(18);
        Check.is("calendars and machines aside", back.end(), 14);
    }

    private static void slacks() {
        Check.promise(19);
        Recorded x = ofText("2;3:0;9;1:1+1,2;1:1");
        Check.is("total", x.slack(1, 't'), 3);
        Check.is("free", x.slack(1, 'f'), 0);
        Check.is("interfering", x.slack(1, 'i'), 3);
        Check.is("independent", x.slack(1, 'd'), 0);
        Check.is("total", x.slack(4, 't'), 4);
        Check.is("free at the end", x.slack(4, 'f'), 4);
        Check.is("interfering", x.slack(4, 'i'), 0);
        Check.is("independent", x.slack(4, 'd'), 1);
        Check.is("total of a critical one", x.slack(2, 't'), 0);
        Check.is("independent of a first one", x.slack(0, 'd'), 0);
        Recorded lone = with(4, 9);
        Check.is("independent of one alone", lone.slack(0, 'd'), 5);
        Recorded lags = ofText("2;1:0+3;30;1:1+2,2");
        Check.is("free", lags.slack(1, 'f'), 22);
        Check.is("independent, with a lag ahead", lags.slack(1, 'd'), 0);
        Recorded sure = ofText("9;1:0+3;30:0;1:1+2,2");
        Check.is("independent, with lags", sure.slack(1, 'd'), 39 - 2 - 12 - 1);
        Check.fails(NONE, x, y -> y.slack(5, 'x'));
        Check.fails(NONE, x, y -> y.slack(-1, 't'));
        Check.fails(BAD, x, y -> y.slack(0, 'x'));
    }

    private static void longestChains() {
        Recorded x = ofText("2;3;1;4:0,1;3:1+1;2:3,4;1:4+1");
        // Longest: 1-3-5 (9), 1-4-5 (9), 1-4-6 (9).
        Check.promise(21);
        Check.is("chains", x.chains(), 3L);
        Check.is("chains", new Recorded().chains(), 0L);
        Check.is("chains of tasks alone", with(4, 4, 3).chains(), 2L);
        Recorded layers = with(1, 1, 1, 1, 1, 1, 1, 1, 1, 1, 1, 1, 1, 1, 1, 1, 1, 1, 1, 1);
        for (int layer = 0; layer < 9; layer++) {
            for (int each = 0; each < 4; each++) {
                layers.need(2 * layer + each / 2, 2 * layer + 2 + each % 2, 0);
            }
        }
        Check.is("chains of ten layers", layers.chains(), 1024L);
        Check.promise(22);
        Check.is("told", x.chainLength(), 3);
        Check.is("told", new Recorded().chainLength(), 0);
        Check.is("told", layers.chainLength(), 10);
        Check.promise(23);
        Check.is("told", x.chainAt(0) * 100 + x.chainAt(1) * 10 + x.chainAt(2), 135);
        Check.fails(PLACE, x, y -> y.chainAt(3));
        Check.fails(PLACE, x, y -> y.chainAt(-1));
        Check.fails(PLACE, new Recorded(), y -> y.chainAt(0));
        Recorded other = with(1, 1, 1, 1);
        other.need(0, 3, 0);
        other.need(0, 2, 0);
        other.need(1, 2, 0);
        Check.is("the least numbers", other.chainAt(0) * 10 + other.chainAt(1), 2);
        Recorded fork = ofText("1;1:0;1:0;1:1,2");
        Check.is("the least numbers", fork.chainAt(0) * 100 + fork.chainAt(1) * 10 + fork.chainAt(2), 13);
    }

    private static void calendars() {
        Check.promise(24);
        Recorded x = new Recorded();
        Check.is("all but one", x.hours(1, 0, 167, false), 1);
        Check.fails(NEVER, x, y -> y.hours(1, 167, 168, false));
        Check.fails(NEVER, x, y -> y.hours(1, 0, 168, false));
        Check.is("some again", x.hours(1, 10, 20, true), 11);
        Check.is("the same again", x.hours(1, 15, 20, true), 11);
        Check.is("another calendar", x.hours(2, 0, 1, false), 167);
        Check.fails(BAD, x, y -> y.hours(4, 0, 1, true));
        Check.fails(BAD, x, y -> y.hours(-1, 0, 168, false));
        Check.fails(BAD, x, y -> y.hours(0, -1, 1, true));
        Check.fails(BAD, x, y -> y.hours(0, 168, 169, true));
        Check.fails(BAD, x, y -> y.hours(0, 167, 169, true));
        Check.fails(BAD, x, y -> y.hours(0, 5, 5, true));
        Check.fails(BAD, x, y -> y.hours(0, 5, 4, true));
        Check.fails(BAD, x, y -> y.hours(1, 5, 4, false));
        x.task(1);
        x.plan('n', 'p');
        x.hours(0, 0, 5, false);
        Check.is("a plan stays", x.planEnd(), 1);
        Check.is("nothing is kept", x.undo(), 0);
        Check.isTrue("hours are not in the book", !x.isWork(0, 0));

        Check.promise(25);
        Check.isTrue("work", x.isWork(1, 10) && x.isWork(1, 19) && x.isWork(1, 167));
        Check.isTrue("no work", !x.isWork(1, 9) && !x.isWork(1, 20) && !x.isWork(1, 0));
        Check.isTrue("a later week", x.isWork(1, 178) && !x.isWork(1, 168));
        Check.is("the last hour", x.isWork(1, Integer.MAX_VALUE), Integer.MAX_VALUE % 168 >= 10 && Integer.MAX_VALUE % 168 < 20);
        Check.fails(BAD, x, y -> y.isWork(4, 0));
        Check.fails(BAD, x, y -> y.isWork(-1, 0));
        Check.fails(BAD, x, y -> y.isWork(0, -1));
    }

    private static void byTheClock() {
        Recorded x = ofText("4;8:0+2;3:1");
        x.hours(1, 0, 10, false);
        x.hours(1, 12, 168, false);
        x.set(1, 'c', 1);
        Check.promise(26);
        Check.is("begin", x.clockBegin(0), 0);
        Check.fails(NEVER, x, y -> y.clockBegin(1));
        Check.fails(NEVER, x, y -> y.clockBegin(2));
        Check.fails(NONE, x, y -> y.clockBegin(3));
        Check.promise(27);
        Check.is("end", x.clockEnd(0), 4);
        Check.fails(NEVER, x, y -> y.clockEnd(2));
        Check.fails(NONE, x, y -> y.clockEnd(-1));
        Check.promise(28);
        Check.fails(NEVER, x, y -> y.clockAll());
        Check.is("without tasks", new Recorded().clockAll(), 0);
        x.set(1, 'z', 1);
        Check.is("all", x.clockAll(), 3 * 168 + 15);
        Check.promise(26);
        Check.is("a pausing begin", x.clockBegin(1), 10);
        Check.promise(27);
        Check.is("a pausing end", x.clockEnd(1), 3 * 168 + 12);
        x.set(1, 'z', 0);
        x.set(1, 'l', 2);
        Check.is("two in a row", x.clockEnd(1), 12);
        x.set(0, 'l', 9);
        Check.is("only one is left of this week's", x.clockEnd(1), 168 + 12);
        Recorded wrap = with(20, 60);
        wrap.hours(0, 10, 158, false);
        Check.promise(26);
        Check.is("over the week's end", wrap.clockBegin(0), 158);
        Check.fails(NEVER, wrap, y -> y.clockBegin(1));
        wrap.set(0, 'l', 21);
        Check.fails(NEVER, wrap, y -> y.clockBegin(0));
        Recorded first = with(5);
        first.hours(0, 1, 168, false);
        first.set(0, 'z', 1);
        Check.promise(27);
        Check.is("the first hour of each week", first.clockEnd(0), 4 * 168 + 1);
        Recorded slow = with(60, 60);
        slow.need(0, 1, 30);
        slow.hours(0, 0, 167, false);
        slow.set(0, 'z', 1);
        slow.set(1, 'z', 1);
        Check.is("an hour a week", slow.clockBegin(0), 167);
        Check.promise(28);
        Check.is("an hour a week", slow.clockAll(), 120 * 168);
    }

    private static void handsAndLists() {
        Check.promise(29);
        Recorded x = ofText("3;5:0;2;5;1:2");
        Check.is("before", x.hands(2, 5), 1);
        Check.is("before", x.hands(2, 1), 5);
        Check.is("another skill", x.hands(1, 1), 1);
        Check.fails(BAD, x, y -> y.hands(3, 1));
        Check.fails(BAD, x, y -> y.hands(-1, 1));
        Check.fails(BAD, x, y -> y.hands(0, 0));
        Check.fails(BAD, x, y -> y.hands(0, 6));

        Check.promise(30);
        Check.is("typed", x.list(3), 1);
        Check.is("typed", x.list(1), 2);
        Check.fails(BAD, x, y -> y.list(3));
        Check.fails(NONE, x, y -> y.list(5));
        Check.fails(NONE, x, y -> y.list(-1));

        Check.promise(32);
        // rests: 8, 5, 3, 5, 1; total slacks: 0, 0, 5, 3, 5
        listIs(x, 'n', 0, 1, 2, 3, 4);
        listIs(x, 'l', 1, 3, 0, 2, 4);
        listIs(x, 'r', 0, 1, 3, 2, 4);
        listIs(x, 's', 0, 1, 3, 2, 4);
        listIs(x, 't', 3, 1, 0, 2, 4);
        Check.fails(BAD, x, y -> y.listed('x', 9));
        Check.fails(PLACE, x, y -> y.listed('n', 5));
        Check.fails(PLACE, x, y -> y.listed('t', -1));
        x.task(9);
        listIs(x, 't', 3, 1, 0, 2, 4, 5);

        Check.promise(31);
        Check.is("wiped", x.wipe(), 2);
        Check.is("wiped", x.wipe(), 0);
        listIs(x, 't', 0, 1, 2, 3, 4, 5);
        Check.is("typed", x.list(3), 1);
    }

    private static void listIs(Recorded x, char rule, int... due) {
        for (int place = 0; place < due.length; place++) {
            Check.is("list " + rule + " at " + place, x.listed(rule, place), due[place]);
        }
    }

    private static void plan(Recorded x, char rule, char way, int end, int... begins) {
        Check.promise(33);
        Check.is("end of plan " + rule + way, x.plan(rule, way), end);
        Check.promise(36);
        Check.is("plan end", x.planEnd(), end);
        Check.promise(34);
        for (int task = 0; task < begins.length; task++) {
            Check.is("begin of " + task + " by plan " + rule + way, x.planBegin(task), begins[task]);
        }
    }

    private static void freeHands() {
        Recorded x = ofText("4;3;2:1+1;5;1:0");
        plan(x, 'n', 'p', 15, 0, 4, 12, 7, 14);
        x.hands(0, 2);
        plan(x, 'n', 'p', 8, 0, 0, 4, 3, 6);
        Check.promise(35);
        Check.is("hand", x.planHand(0), 0);
        Check.is("hand", x.planHand(1), 1);
        Check.is("the hand that is free", x.planHand(3), 1);
        Check.is("hand", x.planHand(4), 0);
        plan(x, 'l', 'p', 10, 0, 4, 8, 0, 5);
    }

    private static void oneAfterAnother() {
        Recorded x = new Recorded();
        Check.promise(33);
        Check.fails(BAD, x, y -> y.plan('x', 'p'));
        Check.fails(BAD, x, y -> y.plan('n', 'x'));
        Check.is("without tasks", x.plan('n', 's'), 0);
        Check.promise(36);
        Check.is("without tasks", x.planEnd(), 0);
        // A hole that a lag leaves is not filled by what is longer, but by what is not.
        x = ofText("1;4:0+1;3");
        plan(x, 'n', 's', 9, 0, 2, 6);
        plan(x, 'n', 'p', 8, 0, 4, 1);
        x = ofText("2;3:0+4;1;3;5");
        plan(x, 'n', 's', 14, 0, 6, 2, 3, 9);
        plan(x, 'n', 'p', 14, 0, 6, 2, 3, 9);
        x.set(2, 'm', 1);
        x.set(3, 'm', 1);
        x.set(3, 's', 1);
        plan(x, 'n', 's', 14, 0, 6, 2, 3, 9);
        x.set(4, 's', 2);
        x.set(4, 'm', 1);
        plan(x, 'n', 's', 11, 0, 6, 2, 3, 6);
        Check.promise(35);
        Check.is("hand of a skill", x.planHand(3), 0);
        Recorded two = with(1, 5, 2, 2);
        two.hands(0, 2);
        plan(two, 'n', 's', 5, 0, 0, 1, 3);
        Check.promise(35);
        Check.is("hand", two.planHand(0), 0);
        Check.is("hand", two.planHand(1), 1);
        Check.is("the least number", two.planHand(3), 0);
    }

    private static void plansStay() {
        Recorded x = ofText("3;4:0");
        Check.promise(34);
        Check.fails(STATE, x, y -> y.planBegin(9));
        Check.promise(35);
        Check.fails(STATE, x, y -> y.planHand(-1));
        Check.promise(36);
        Check.fails(STATE, x, y -> y.planEnd());
        Check.promise(37);
        Check.fails(STATE, x, y -> y.busy(9, -1));
        Check.promise(38);
        Check.fails(STATE, x, y -> y.proofLength());
        Check.promise(39);
        Check.fails(STATE, x, y -> y.proofAt(-1));
        Check.promise(40);
        Check.fails(STATE, x, y -> y.isProved());
        x.plan('n', 'p');
        Check.promise(34);
        Check.fails(NONE, x, y -> y.planBegin(2));
        Check.fails(NONE, x, y -> y.planBegin(-1));
        Check.promise(35);
        Check.fails(NONE, x, y -> y.planHand(2));
        Check.promise(37);
        Check.fails(BAD, x, y -> y.busy(3, 0));
        Check.fails(BAD, x, y -> y.busy(-1, 0));
        Check.fails(BAD, x, y -> y.busy(0, -1));
        Check.is("busy", x.busy(0, 6), 1);
        Check.is("not busy", x.busy(0, 7), 0);
        Check.is("not busy", x.busy(0, Integer.MAX_VALUE), 0);
        Check.is("another skill", x.busy(1, 0), 0);
        Check.promise(36);
        x.hands(0, 3);
        x.hours(0, 0, 9, false);
        x.list(1);
        x.keep();
        x.type('x');
        x.read();
        Check.is("a plan stays", x.planEnd(), 7);
        planGoes(x, () -> x.task(3));
        planGoes(x, () -> x.set(0, 'l', 3));
        planGoes(x, () -> x.need(0, 2, 3));
        planGoes(x, () -> x.dropNeed(0));
        planGoes(x, () -> x.shorten(0, 1, 3));
        planGoes(x, () -> x.guess(0, 1, 3));
        planGoes(x, () -> readText(x, "4"));
        planGoes(x, () -> x.undo());
    }

    private static void planGoes(Recorded x, Runnable call) {
        x.plan('n', 'p');
        call.run();
        Check.fails(STATE, x, y -> y.planEnd());
    }

    private static void proofs() {
        Recorded x = ofText("4;3;2:1+1;5;1:0,2+3");
        x.hands(0, 2);
        x.plan('n', 'p');
        // 0: 0-4, 1: 0-3, 2: 4-6, 3: 3-8, 4: 9-10
        Check.promise(38);
        Check.is("proof", x.proofLength(), 3);
        Check.is("without tasks", emptyProof().proofLength(), 0);
        Check.promise(39);
        Check.is("proof", x.proofAt(0) * 100 + x.proofAt(1) * 10 + x.proofAt(2), 124);
        Check.fails(PLACE, x, y -> y.proofAt(3));
        Check.fails(PLACE, x, y -> y.proofAt(-1));
        Check.fails(PLACE, emptyProof(), y -> y.proofAt(0));
        Check.promise(40);
        Check.isTrue("proved", x.isProved());
        Check.isTrue("without tasks", emptyProof().isProved());
        Recorded ties = ofText("3;3;3;2:1,0");
        ties.hands(0, 5);
        ties.plan('n', 'p');
        Check.promise(39);
        Check.is("the lowest number", ties.proofAt(0), 0);
        Recorded turned = ofText("3;3;3;2:0,1");
        turned.hands(0, 5);
        turned.plan('n', 'p');
        Check.is("the lowest number", turned.proofAt(0), 0);
        Recorded last = with(2, 2);
        last.hands(0, 2);
        last.plan('n', 'p');
        Check.is("the lowest number of the last ones", last.proofAt(0), 0);
        Check.promise(40);
        Recorded machine = with(2, 2);
        machine.hands(0, 2);
        machine.set(0, 'm', 0);
        machine.set(1, 'm', 0);
        machine.plan('n', 'p');
        Check.isTrue("not proved, as a machine holds it up", !machine.isProved());
        machine.hands(0, 1);
        Check.isTrue("the hands that there were", !machine.isProved());
        machine.plan('n', 'p');
        machine.hands(0, 2);
        Check.isTrue("the hands that there were", machine.isProved());
        Recorded skills = with(2, 2);
        skills.set(0, 's', 1);
        skills.set(1, 's', 1);
        skills.plan('n', 'p');
        Check.isTrue("not proved by another skill", !skills.isProved());
    }

    private static Recorded emptyProof() {
        Recorded x = new Recorded();
        x.plan('n', 'p');
        return x;
    }

    private static void likeHands() {
        Recorded x = ofText("1;5:0;5:0;5:1,2;5");
        x.set(1, 'm', 0);
        x.set(2, 'm', 0);
        x.set(3, 's', 2);
        int[] best = {21, 11, 11, 11};
        int[] byLists = {21, 15, 11, 11};
        for (int hands = 1; hands <= 4; hands++) {
            Check.promise(41);
            Check.is("best with " + hands, x.best(hands), best[hands - 1]);
            Check.promise(42);
            Check.is("best by lists with " + hands, x.bestByLists(hands), byLists[hands - 1]);
        }
        Recorded turned = ofText("5;1;5:1;5:1;5:2,3");
        Check.promise(41);
        Check.is("best in another order", turned.best(2), 11);
        Check.promise(42);
        Check.is("best by lists in another order", turned.bestByLists(2), 15);
        Recorded seven = with(1, 1, 1, 1, 1, 1, 1);
        Recorded none = new Recorded();
        Check.promise(41);
        Check.fails(BAD, x, y -> y.best(0));
        Check.fails(BAD, seven, y -> y.best(5));
        Check.fails(NEVER, seven, y -> y.best(4));
        Check.is("without tasks", none.best(1), 0);
        Check.is("six", with(3, 3, 3, 2, 2, 2).best(2), 8);
        Check.is("sixty each", with(60, 60, 60, 60, 60, 60).best(1), 360);
        Check.is("lags", ofText("1;1:0+30;1:1+30").best(4), 63);
        Check.promise(42);
        Check.fails(BAD, x, y -> y.bestByLists(0));
        Check.fails(BAD, seven, y -> y.bestByLists(5));
        Check.fails(NEVER, seven, y -> y.bestByLists(1));
        Check.is("without tasks", none.bestByLists(1), 0);
        Check.is("six", with(3, 3, 3, 2, 2, 2).bestByLists(2), 8);
    }

    private static void anomalies() {
        Check.promise(43);
        // Graham's nine tasks: 12 with three hands; more hands, shorter tasks or fewer needs end later.
        Recorded x = ofText("3;2;2;2;4:3;4:3;4:3;4:3;9:0");
        x.hands(0, 3);
        Check.is("before", x.plan('n', 'p'), 12);
        Check.is("a hand more", x.anomaly('h', 'n'), 0);
        Check.is("a task shorter", x.anomaly('s', 'n'), shorterTask(x));
        Check.is("a need less", x.anomaly('n', 'n'), -1);
        Check.is("the plan stays", x.planEnd(), 12);
        anomalyOfTwoHands("2;4;1:0,1;3", 'n', 'n', 1);
        anomalyOfTwoHands("1;3:0;2;4:0", 'n', 'r', 1);
        anomalyOfTwoHands("4;2:0;4:0;4;2", 's', 'n', 3);
        // The list stays as it was, though a new one would be another one.
        anomalyOfTwoHands("2;3:0;3;3;4:2", 'n', 'r', 1);
        anomalyOfTwoHands("2;2;3:0;2;3:2;4:0", 's', 'l', 1);
        anomalyOfTwoHands("4;3;4;2:1,2;1:2", 's', 's', 2);
        Check.fails(BAD, x, y -> y.anomaly('x', 'n'));
        Check.fails(BAD, x, y -> y.anomaly('h', 'x'));
        Check.is("hands are as they were", x.hands(0, 3), 3);
        for (char kind : "hsn".toCharArray()) {
            Check.is("without tasks", new Recorded().anomaly(kind, 'n'), -1);
        }
        Recorded five = with(2, 2, 2, 2, 2, 2);
        five.hands(0, 5);
        Check.is("a sixth hand", five.anomaly('h', 'n'), -1);
        Check.is("lengths of 1", with(1, 1, 1).anomaly('s', 'l'), -1);
    }

    private static void anomalyOfTwoHands(String text, char kind, char rule, int due) {
        Recorded x = ofText(text);
        x.hands(0, 2);
        Check.is("anomaly of " + text, x.anomaly(kind, rule), due);
    }

    /** What a new object with the shorter task answers. */
    private static int shorterTask(Recorded x) {
        int before = x.plan('n', 'p');
        for (int task = 0; task < x.tasks(); task++) {
            Recorded y = ofText("3;2;2;2;4:3;4:3;4:3;4:3;9:0");
            y.hands(0, 3);
            y.set(task, 'l', y.of(task, 'l') - 1);
            if (y.plan('n', 'p') > before) {
                return task;
            }
        }
        return -1;
    }

    private static void levels() {
        Check.promise(44);
        Check.is("without tasks", new Recorded().leastPeak(), 0);
        Check.is("two behind each other", with(4, 2, 2).leastPeak(), 2);
        Check.is("three", with(4, 3, 2).leastPeak(), 3);
        Check.is("with needs", ofText("6;2;2:1+1;1").leastPeak(), 2);
        Check.is("with a lag that keeps it up", ofText("4;1;1:1+2;2").leastPeak(), 2);
        Check.is("with a lag that is too long", ofText("4;1;1:1+2;3").leastPeak(), 3);
        Recorded skills = with(4, 2, 2);
        skills.set(1, 'm', 0);
        skills.set(2, 's', 1);
        Check.is("machines and skills aside", skills.leastPeak(), 2);
        Check.fails(NEVER, with(1, 1, 1, 1, 1, 1, 1), y -> y.leastPeak());
        Check.is("six alike", with(1, 1, 1, 1, 1, 1).leastPeak(), 6);
        // 25 * 40 * 2 = 2000, and 25 * 41 * 2 = 2050.
        Check.is("2000 begins", with(60, 36, 21, 59).leastPeak(), 3);
        Check.fails(NEVER, with(60, 36, 20, 59), y -> y.leastPeak());
        Check.fails(NEVER, with(60, 1, 1, 1, 1, 1), y -> y.leastPeak());
    }

    private static void shortening() {
        Recorded x = ofText("6;4:0;8;3:1,2");
        Check.promise(45);
        Check.is("before", x.shorten(0, 5, 99), 0);
        Check.is("before", x.shorten(0, 2, 7), 5);
        Check.is("for nothing", x.shorten(0, 2, 0), 2);
        Check.is("before", x.shorten(0, 2, 7), 2);
        Check.fails(NONE, x, y -> y.shorten(4, 9, 9));
        Check.fails(BAD, x, y -> y.shorten(0, 6, 0));
        Check.fails(BAD, x, y -> y.shorten(0, -1, 0));
        Check.fails(BAD, x, y -> y.shorten(1, 4, 0));
        Check.fails(BAD, x, y -> y.shorten(1, 3, 100));
        Check.fails(BAD, x, y -> y.shorten(1, 3, -1));
        x.shorten(1, 3, 5);
        x.shorten(2, 1, 1);
        Check.promise(46);
        Check.is("least end", x.leastEnd(), 10);
        Check.is("without tasks", new Recorded().leastEnd(), 0);
        Check.promise(47);
        Check.is("cost", x.leastCost(13), 0);
        Check.is("cost", x.leastCost(12), 5);
        Check.is("cost", x.leastCost(11), 10);
        Check.is("cost", x.leastCost(10), 16);
        Check.is("cost", x.leastCost(Integer.MAX_VALUE), 0);
        Check.fails(NONE, x, y -> y.leastCost(9));
        Check.fails(NONE, x, y -> y.leastCost(Integer.MIN_VALUE));
        Recorded dear = ofText("6;6:0;6:1;6:2;6:3");
        for (int task = 0; task < 4; task++) {
            dear.shorten(task, 5, 99 - task);
        }
        Check.is("dear", dear.leastCost(10), 5 * (99 + 98 + 97 + 96));
        Check.is("the cheaper ones first", dear.leastCost(24), 5 * 96 + 97);
        Recorded none = new Recorded();
        Check.is("without tasks", none.leastCost(0), 0);
        Check.fails(NONE, none, y -> y.leastCost(-1));
        Recorded many = with(9, 9, 9, 9, 9);
        for (int task = 0; task < 4; task++) {
            many.shorten(task, 5, 1);
        }
        Check.is("1296 ways", many.leastCost(9), 0);
        many.shorten(4, 1, 1);
        Check.fails(NEVER, many, y -> y.leastCost(9));
        Check.fails(NONE, many, y -> y.leastCost(7));
        Recorded two = with(9, 9, 9, 9, 9, 9);
        int[] cuts = {4, 4, 4, 3, 3};
        for (int task = 0; task < 5; task++) {
            two.shorten(task, cuts[task], 1);
        }
        Check.is("2000 ways", two.leastCost(9), 0);
    }

    private static void guessing() {
        Recorded x = ofText("3;2:0;4");
        Check.promise(48);
        Check.is("guessed", x.guess(0, 1, 5), 1);
        Check.is("guessed again", x.guess(0, 2, 6), 1);
        Check.is("guessed", x.guess(2, 4, 7), 2);
        Check.fails(NONE, x, y -> y.guess(3, 0, 0));
        Check.fails(BAD, x, y -> y.guess(0, 0, 5));
        Check.fails(BAD, x, y -> y.guess(0, 4, 5));
        Check.fails(BAD, x, y -> y.guess(0, 3, 2));
        Check.fails(BAD, x, y -> y.guess(0, 3, 61));
        Check.promise(49);
        Check.is("parts", x.allOdds(), 36L);
        Check.is("parts", new Recorded().allOdds(), 1L);
        Check.promise(50);
        // 0-1 is 4, 5 or 8 long by 1, 4 and 1 part; 2 is 4, 4 or 7 long.
        Check.is("odds", x.oddsBy(3), 0L);
        Check.is("odds", x.oddsBy(4), 5L);
        Check.is("odds", x.oddsBy(5), 25L);
        Check.is("odds", x.oddsBy(7), 30L);
        Check.is("odds", x.oddsBy(8), 36L);
        Check.is("without tasks", new Recorded().oddsBy(0), 1L);
        Check.is("without tasks", new Recorded().oddsBy(-1), 0L);
        Check.promise(51);
        Check.is("critical", x.oddsCritical(2), 5L + 5L);
        Check.is("critical", x.oddsCritical(1), 36L - 5L);
        Check.fails(NONE, x, y -> y.oddsCritical(3));
        Recorded many = with(2, 2, 2, 2, 2, 2, 2);
        for (int task = 0; task < 6; task++) {
            many.guess(task, 2, 2);
        }
        Check.promise(49);
        Check.is("six", many.allOdds(), 46656L);
        Check.is("six", many.oddsBy(2), 46656L);
        Check.is("seven", many.guess(6, 1, 3), 7);
        Check.fails(NEVER, many, y -> y.allOdds());
        Check.promise(50);
        Check.fails(NEVER, many, y -> y.oddsBy(2));
        Check.promise(51);
        Check.fails(NEVER, many, y -> y.oddsCritical(0));
        Check.fails(NONE, many, y -> y.oddsCritical(7));
    }

    private static void worth() {
        Recorded x = ofText("3;7:0+1");
        x.set(0, 'w', 10);
        x.set(1, 'w', 9999);
        Check.promise(52);
        Check.is("planned", x.planned(0), 0);
        Check.is("cut", x.planned(1), 3);
        Check.is("cut", x.planned(2), 6);
        Check.is("planned", x.planned(4), 10);
        Check.is("planned", x.planned(5), 10 + 9999 / 7);
        Check.is("each is cut", x.planned(Integer.MAX_VALUE), 10009);
        Check.fails(BAD, x, y -> y.planned(-1));
        Check.is("without tasks", new Recorded().planned(5), 0);
        Check.promise(53);
        Check.is("nothing", x.earned(), 0);
        x.set(0, 'd', 19);
        x.set(1, 'd', 1);
        Check.is("each is cut", x.earned(), 1 + 99);
        Check.promise(54);
        Check.is("index", x.index(4), 10.0f);
        Check.is("index", x.index(2), 100f / 6f);
        Check.fails(RATIO, x, y -> y.index(0));
        Check.fails(BAD, x, y -> y.index(-1));
        Check.fails(RATIO, new Recorded(), y -> y.index(7));
        Recorded hour = with(1);
        hour.set(0, 'w', 5);
        Check.is("an hour", hour.index(1), 0.0f);
        Check.promise(52);
        Check.is("an hour", hour.planned(1), 5);
        Check.promise(54);
        Recorded small = with(9);
        small.set(0, 'w', 1);
        Check.fails(RATIO, small, y -> y.index(8));
        Check.is("index", small.index(9), 0.0f);
    }

    private static void changes() {
        Recorded x = ofText("3;4:0;2:1");
        Check.promise(56);
        Check.is("nothing is kept", x.moved(), 0);
        Check.promise(57);
        Check.fails(STATE, x, y -> y.movedBy(0));
        Check.fails(NONE, x, y -> y.movedBy(3));
        Check.promise(55);
        Check.is("kept", x.keep(), 3);
        Check.is("kept without tasks", new Recorded().keep(), 0);
        x.set(0, 'l', 5);
        x.task(7);
        Check.promise(56);
        Check.is("moved", x.moved(), 2);
        Check.promise(57);
        Check.is("by", x.movedBy(0), 0);
        Check.is("by", x.movedBy(2), 2);
        Check.fails(STATE, x, y -> y.movedBy(3));
        x.set(0, 'l', 1);
        Check.is("earlier", x.movedBy(1), -2);
        readText(x, "3");
        Check.promise(56);
        Check.is("not there", x.moved(), 2);
        Check.promise(55);
        Check.is("in place of those", x.keep(), 1);
        Check.promise(56);
        Check.is("moved", x.moved(), 0);
        x.undo();
        Check.is("what is kept is not in the book", x.moved(), 0);
        Check.promise(57);
        Check.fails(STATE, x, y -> y.movedBy(1));
    }

    private static void craneOrders() {
        Check.promise(58);
        Recorded x = ofText("1;5:0;5:0;5:1,2;5");
        x.set(1, 'm', 0);
        x.set(2, 'm', 0);
        x.set(2, 'p', 1);
        Check.is("two orders", x.crane(), 22);
        Check.is("without tasks", new Recorded().crane(), 0);
        Check.is("hands enough", with(3, 5, 4).crane(), 5);
        x.set(1, 'm', 2);
        Check.is("no order any longer", x.crane(), 11 + 6);
        x.undo();
        Check.is("two orders again", x.crane(), 22);
        Recorded other = with(3, 5);
        other.set(0, 'm', 1);
        other.set(1, 'm', 1);
        Check.is("other machines", other.crane(), 5);
        Recorded turned = with(3, 5, 2);
        turned.need(2, 1, 0);
        turned.need(1, 0, 4);
        for (int task = 0; task < 3; task++) {
            turned.set(task, 'm', 0);
        }
        turned.set(0, 'p', 1);
        Check.is("needs among them", turned.crane(), 14 + 7);
        Recorded last = with(5, 3, 1);
        for (int task = 0; task < 3; task++) {
            last.set(task, 'm', 0);
        }
        last.set(2, 'p', 1);
        Check.is("the last one first", last.crane(), 9 + 1);
        Recorded many = with(1, 2, 3, 4, 5, 6);
        for (int task = 0; task < 5; task++) {
            many.set(task, 'm', 0);
            many.set(task, 'p', task % 2);
        }
        Check.is("five", many.crane(), 6 + 15);
        many.set(5, 'm', 0);
        Check.fails(NEVER, many, y -> y.crane());
    }

    private static void figures() {
        Recorded x = ofText("3;4:0;2");
        Check.promise(59);
        Check.is("share", x.criticalShare(), 2f / 3f);
        Check.fails(RATIO, new Recorded(), y -> y.criticalShare());
        Check.promise(60);
        Check.is("mean", x.meanLength(), 3.0);
        Check.is("mean", with(1, 1, 3).meanLength(), 5.0 / 3.0);
        Check.fails(RATIO, new Recorded(), y -> y.meanLength());
        Check.promise(61);
        Recorded sum = new Recorded();
        Check.is("at first", sum.checksum(), 7L);
        sum.type('A');
        Check.is("a sign", sum.checksum(), 7L * 31 + 65);
        sum.erase();
        sum.task(5);
        sum.task(6);
        sum.need(0, 1, 9);
        sum.type('~');
        long due = 7;
        int[] row = {5, 0, -1, 0, 0, 0, 0, 0, 6, 0, -1, 0, 0, 0, 0, 0, 0, 1, 9, 126};
        for (int each : row) {
            due = due * 31 + each;
        }
        Check.is("a row", sum.checksum(), due);
        sum.shorten(0, 1, 1);
        sum.guess(0, 1, 9);
        sum.plan('n', 'p');
        sum.hands(0, 4);
        Check.is("nothing else", sum.checksum(), due);
    }

    private static void theorem() {
        Check.promise(62);
        Check.isTrue("without tasks", new Recorded().isTrue());
        Check.isTrue("without tasks", emptyProof().isTrue());
        Recorded x = ofText("4;3;2:1+1;5;1:0");
        Check.isTrue("without a plan", x.isTrue());
        for (char way : "ps".toCharArray()) {
            x.hands(0, 2);
            x.plan('n', way);
            x.hands(0, 1);
            Check.isTrue("with a plan", x.isTrue());
        }
        Recorded graham = ofText("3;2;2;2;4:3;4:3;4:3;4:3;9:0");
        for (int hands = 1; hands <= 5; hands++) {
            graham.hands(0, hands);
            for (char rule : "nlrst".toCharArray()) {
                int end = graham.plan(rule, 'p');
                Check.isTrue("the theorem", graham.isTrue());
                Check.isTrue("the bound", end * hands <= 34 + graham.end() * (hands - 1));
            }
        }
    }
}
