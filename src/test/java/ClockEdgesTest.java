/** The edges of promises 24 to 28: the week, and begins and ends by the clock. */
public final class ClockEdgesTest extends Edges {

    private static final int WEEK = 168;

    public static void main(String[] args) {
        Check.runAll(ClockEdgesTest.class);
    }

    /** By the calendar of all tasks just these hours of the week work. */
    private static void workOnly(Recorded x, int from, int to) {
        if (from > 0) {
            x.hours(0, 0, from, false);
        }
        if (to < WEEK) {
            x.hours(0, to, WEEK, false);
        }
    }

    // ---- promise 24

    static void promise24_noSuchCalendar() {
        refused(BAD, rich(), (y, calendar) -> y.hours(calendar, 0, 1, true), -1, 4, LEAST, MOST);
        refused(BAD, new Recorded(), (y, calendar) -> y.hours(calendar, 0, 1, false), -1, 4, LEAST, MOST);
    }

    static void promise24_allFourCalendarsAreApart() {
        Recorded x = new Recorded();
        for (int calendar = 0; calendar < 4; calendar++) {
            Check.is("hours that work", x.hours(calendar, 0, calendar + 1, false), WEEK - 1 - calendar);
        }
        for (int calendar = 0; calendar < 4; calendar++) {
            Check.isTrue("the last that does not work", !x.isWork(calendar, calendar));
            Check.isTrue("the first that works", x.isWork(calendar, calendar + 1));
        }
    }

    static void promise24_theFirstHourIs0To167() {
        refused(BAD, rich(), (y, from) -> y.hours(0, from, WEEK, true), -1, WEEK, LEAST, MOST);
        refused(BAD, new Recorded(), (y, from) -> y.hours(0, from, WEEK, false), -1, WEEK, LEAST, MOST);
        Recorded x = new Recorded();
        Check.is("the hour 0", x.hours(0, 0, 1, false), 167);
        Check.is("the hour 167", x.hours(0, 167, WEEK, false), 166);
        Check.isTrue("just these", !x.isWork(0, 0) && x.isWork(0, 1) && x.isWork(0, 166) && !x.isWork(0, 167));
    }

    static void promise24_theHourBehindIsAtMost168() {
        refused(BAD, rich(), (y, to) -> y.hours(0, 0, to, true), WEEK + 1, MOST, 0, -1, LEAST);
        refused(BAD, rich(), (y, to) -> y.hours(0, 167, to, true), WEEK + 1, MOST, LEAST);
        Check.is("168", new Recorded().hours(0, 1, WEEK, false), 1);
    }

    static void promise24_theHourBehindIsGreaterThanTheFirst() {
        refused(BAD, rich(), (y, to) -> y.hours(0, 5, to, true), 5, 4, 0, -1, LEAST);
        refused(BAD, rich(), (y, to) -> y.hours(0, 5, to, false), 5, 4, 0, -1, LEAST);
        refused(BAD, rich(), (y, to) -> y.hours(0, 167, to, false), 167, 166);
        Check.is("by 1", new Recorded().hours(0, 5, 6, false), 167);
    }

    static void promise24_bothHoursOutOfRange() {
        Check.fails(BAD, rich(), y -> y.hours(0, WEEK, WEEK + 1, true));
        Check.fails(BAD, rich(), y -> y.hours(0, -2, -1, true));
        Check.fails(BAD, rich(), y -> y.hours(0, LEAST, MOST, true));
        Check.fails(BAD, rich(), y -> y.hours(0, MOST, LEAST, false));
    }

    static void promise24_noneOfAWholeWeekWouldWork() {
        Check.fails(NEVER, new Recorded(), y -> y.hours(0, 0, WEEK, false));
        Check.fails(NEVER, rich(), y -> y.hours(1, 0, WEEK, false));
    }

    static void promise24_noneWouldWorkWithoutTheLastOne() {
        for (int hour : new int[] {0, 1, 84, 166, 167}) {
            Recorded x = new Recorded();
            workOnly(x, hour, hour + 1);
            Check.fails(NEVER, x, y -> y.hours(0, hour, hour + 1, false));
            Check.fails(NEVER, x, y -> y.hours(0, hour, WEEK, false));
            Check.fails(NEVER, x, y -> y.hours(0, 0, hour + 1, false));
        }
    }

    static void promise24_oneThatWorksIsLeft() {
        Recorded x = new Recorded();
        workOnly(x, 83, 85);
        Check.is("left", x.hours(0, 83, 84, false), 1);
        Recorded y = new Recorded();
        Check.is("left", y.hours(0, 0, 167, false), 1);
        Recorded z = new Recorded();
        Check.is("left", z.hours(0, 1, WEEK, false), 1);
    }

    static void promise24_aWrongHourGoesAheadOfNone() {
        Check.fails("a calendar", BAD, new Recorded(), y -> y.hours(4, 0, WEEK, false));
        Check.fails("an hour below 0", BAD, new Recorded(), y -> y.hours(0, -1, WEEK, false));
        Check.fails("an hour above 168", BAD, new Recorded(), y -> y.hours(0, 0, WEEK + 1, false));
        Recorded one = new Recorded();
        workOnly(one, 7, 8);
        Check.fails("no hours at all", BAD, one, y -> y.hours(0, 7, 7, false));
    }

    static void promise24_allHoursOfTheWeekWorkAgain() {
        Recorded x = new Recorded();
        workOnly(x, 7, 8);
        Check.is("all", x.hours(0, 0, WEEK, true), WEEK);
        Check.is("all, once more", x.hours(0, 0, WEEK, true), WEEK);
    }

    static void promise24_whatIsToldTwiceCountsOnce() {
        Recorded x = new Recorded();
        Check.is("once", x.hours(0, 10, 20, false), 158);
        Check.is("once more", x.hours(0, 15, 20, false), 158);
        Check.is("over the edge", x.hours(0, 15, 25, false), 153);
        Check.is("and back", x.hours(0, 5, 15, true), 158);
    }

    // ---- promise 25

    static void promise25_noSuchCalendar() {
        refused(BAD, rich(), (y, calendar) -> y.isWork(calendar, 0), -1, 4, LEAST, MOST);
        refused(BAD, rich(), (y, calendar) -> y.isWork(calendar, -1), -1, 4, LEAST, MOST);
    }

    static void promise25_anHourBelow0IsRefused() {
        refused(BAD, rich(), (y, hour) -> y.isWork(0, hour), -1, -168, LEAST);
    }

    static void promise25_theHour0() {
        Recorded x = new Recorded();
        workOnly(x, 0, 1);
        Check.isTrue("the hour 0", x.isWork(0, 0));
        Check.isTrue("the hours round it", !x.isWork(0, 1) && !x.isWork(0, 167));
    }

    static void promise25_hoursPastTheEndOfTheWeek() {
        Recorded x = new Recorded();
        workOnly(x, 0, 1);
        Check.isTrue("that of the next week", x.isWork(0, 168));
        Check.isTrue("the hours round it", !x.isWork(0, 167) && !x.isWork(0, 169));
        Check.isTrue("that of the week behind", x.isWork(0, 336));
        Recorded last = new Recorded();
        workOnly(last, 167, WEEK);
        Check.isTrue("the last one", last.isWork(0, 167) && last.isWork(0, 335));
        Check.isTrue("the first of the next week", !last.isWork(0, 168));
    }

    static void promise25_theGreatestHourIs127OfItsWeek() {
        Recorded x = new Recorded();
        workOnly(x, 127, 128);
        Check.isTrue("the greatest", x.isWork(0, MOST));
        Check.isTrue("the one ahead of it", !x.isWork(0, MOST - 1));
        Check.isTrue("a week ahead of it", x.isWork(0, MOST - WEEK));
    }

    // ---- promises 26, 27

    /** Each is asked of an object that was asked for no time ahead of it. */
    private static void clock(Recorded x, int task, int begin, int end) {
        Check.is("begin of " + task, x.again().clockBegin(task), begin);
        Check.is("end of " + task, x.again().clockEnd(task), end);
    }

    private static void never(Recorded x, int task) {
        Check.fails("clockBegin", NEVER, x, y -> y.clockBegin(task));
        Check.fails("clockEnd", NEVER, x, y -> y.clockEnd(task));
    }

    private static Recorded pausing(int length, int from, int to) {
        Recorded x = with(length);
        x.set(0, 'z', 1);
        workOnly(x, from, to);
        return x;
    }

    private static Recorded straight(int length, int from, int to) {
        Recorded x = with(length);
        workOnly(x, from, to);
        return x;
    }

    static void promise26_noSuchTask() {
        noTask(rich(), Recorded::clockBegin);
        noTask(new Recorded(), Recorded::clockBegin);
        noTask(full(), Recorded::clockBegin);
    }

    static void promise26_noTaskGoesAheadOfNever() {
        noTask(straight(2, 0, 1), Recorded::clockBegin);
    }

    static void promise26_letAt0WithoutNeeds() {
        clock(with(1), 0, 0, 1);
        clock(with(60), 0, 0, 60);
        clock(pausing(60, 0, WEEK), 0, 0, 60);
    }

    static void promise26_aRowOfJustItsLength() {
        clock(straight(10, 10, 20), 0, 10, 20);
        clock(straight(60, 100, 160), 0, 100, 160);
        clock(straight(60, 108, WEEK), 0, 108, 168);
        clock(straight(1, 167, WEEK), 0, 167, 168);
        clock(straight(1, 0, 1), 0, 0, 1);
    }

    static void promise26_neverIfTheRowIsAnHourShort() {
        never(straight(11, 10, 20), 0);
        never(straight(60, 100, 159), 0);
        never(straight(60, 109, WEEK), 0);
        never(straight(2, 167, WEEK), 0);
        never(straight(2, 0, 1), 0);
    }

    static void promise26_aRowOverTheEndOfTheWeek() {
        Recorded x = with(20);
        x.hours(0, 10, 158, false);
        clock(x, 0, 158, 178);
        x.set(0, 'l', 21);
        never(x, 0);
        x.set(0, 'l', 10);
        clock(x, 0, 0, 10);
        x.set(0, 'l', 11);
        clock(x, 0, 158, 169);
    }

    static void promise26_aRowOverTheEndOfTheWeekByAnHour() {
        Recorded x = with(2);
        x.hours(0, 1, 167, false);
        clock(x, 0, 167, 169);
        x.set(0, 'l', 3);
        never(x, 0);
    }

    /** A task that works by another calendar, with all its hours, lets the next one. */
    private static Recorded letAt(int time, int length, int pauses, int from, int to) {
        Recorded x = with(Math.min(60, time));
        x.set(0, 'c', 1);
        int last = 0;
        for (int left = time - 60; left > 0; left -= 60) {
            x.need(last, x.task(Math.min(60, left)), 0);
            last++;
            x.set(last, 'c', 1);
        }
        x.need(last, x.task(length), 0);
        x.set(last + 1, 'z', pauses);
        workOnly(x, from, to);
        return x;
    }

    private static void letAtIs(int time, int length, int pauses, int begin, int end) {
        Recorded x = letAt(time, length, pauses, 10, 20);
        clock(x, x.tasks() - 1, begin, end);
    }

    static void promise26_letInARowThatIsLongEnoughFromThere() {
        letAtIs(15, 5, 0, 15, 20);
        letAtIs(10, 10, 0, 10, 20);
        letAtIs(19, 1, 0, 19, 20);
    }

    static void promise26_letInARowThatIsTooShortFromThere() {
        letAtIs(15, 6, 0, 178, 184);
        letAtIs(11, 10, 0, 178, 188);
        letAtIs(20, 1, 0, 178, 179);
    }

    static void promise26_letAtTheEndOfTheWeek() {
        letAtIs(167, 10, 0, 178, 188);
        letAtIs(168, 10, 0, 178, 188);
        letAtIs(169, 10, 0, 178, 188);
        letAtIs(178, 10, 0, 178, 188);
        letAtIs(179, 10, 0, 346, 356);
        Recorded all = letAt(168, 60, 0, 0, WEEK);
        clock(all, all.tasks() - 1, 168, 228);
    }

    static void promise26_aPausingOneBeginsWithTheFirstHourThatWorks() {
        clock(pausing(1, 0, 1), 0, 0, 1);
        clock(pausing(1, 167, WEEK), 0, 167, 168);
        letAtIs(9, 2, 1, 10, 12);
        letAtIs(10, 2, 1, 10, 12);
        letAtIs(19, 1, 1, 19, 20);
        letAtIs(20, 1, 1, 178, 179);
    }

    static void promise26_aPausingOnePastTheEndOfTheWeek() {
        letAtIs(168, 10, 1, 178, 188);
        letAtIs(187, 2, 1, 187, 347);
        Recorded first = letAt(168, 1, 1, 0, 1);
        clock(first, first.tasks() - 1, 168, 169);
        Recorded last = letAt(168, 1, 1, 167, WEEK);
        clock(last, last.tasks() - 1, 335, 336);
    }

    static void promise26_neverIfOneThatItNeedsNeverBegins() {
        Recorded x = ofText("2;1:0;1:1;1");
        x.set(0, 'c', 1);
        x.hours(1, 1, WEEK, false);
        never(x, 0);
        never(x, 1);
        never(x, 2);
        clock(x, 3, 0, 1);
        x.set(0, 'z', 1);
        clock(x, 0, 0, 169);
        clock(x, 2, 170, 171);
    }

    static void promise26_theLagBehindTheEndByTheClock() {
        Recorded x = ofText("2;1:0+30");
        x.set(0, 'z', 1);
        x.hours(0, 1, 30, false);
        clock(x, 0, 0, 31);
        clock(x, 1, 61, 62);
    }

    static void promise26_theLastOfAllThatItNeeds() {
        Recorded x = ofText("3;5;1:0+3,1");
        clock(x, 2, 6, 7);
        x.hours(0, 2, 4, false);
        clock(x, 0, 4, 7);
        clock(x, 1, 4, 9);
        clock(x, 2, 10, 11);
    }

    static void promise26_theCalendarOfTheTask() {
        for (int calendar = 0; calendar < 4; calendar++) {
            Recorded x = with(1);
            x.set(0, 'c', calendar);
            for (int other = 0; other < 4; other++) {
                x.hours(other, 0, 10 + other, false);
            }
            clock(x, 0, 10 + calendar, 11 + calendar);
        }
    }

    static void promise27_noSuchTask() {
        noTask(rich(), Recorded::clockEnd);
        noTask(new Recorded(), Recorded::clockEnd);
        noTask(full(), Recorded::clockEnd);
    }

    static void promise27_noTaskGoesAheadOfNever() {
        noTask(straight(2, 0, 1), Recorded::clockEnd);
    }

    static void promise27_aPausingOneOfJustAWeeksHours() {
        clock(pausing(10, 5, 15), 0, 5, 15);
        clock(pausing(20, 5, 15), 0, 5, 168 + 15);
        clock(pausing(60, 5, 15), 0, 5, 5 * 168 + 15);
    }

    static void promise27_aPausingOneOfAnHourMoreThanAWeeks() {
        clock(pausing(11, 5, 15), 0, 5, 168 + 6);
        clock(pausing(21, 5, 15), 0, 5, 336 + 6);
    }

    static void promise27_aPausingOneOfAnHourLessThanAWeeks() {
        clock(pausing(9, 5, 15), 0, 5, 14);
        clock(pausing(19, 5, 15), 0, 5, 168 + 14);
    }

    static void promise27_aPausingOneThatIsLetWithinItsHours() {
        letAtIs(13, 7, 1, 13, 20);
        letAtIs(13, 8, 1, 13, 168 + 11);
        letAtIs(13, 10, 1, 13, 168 + 13);
        letAtIs(13, 17, 1, 13, 168 + 20);
        letAtIs(13, 18, 1, 13, 336 + 11);
    }

    static void promise27_anHourAWeek() {
        clock(pausing(60, 0, 1), 0, 0, 59 * 168 + 1);
        clock(pausing(60, 167, WEEK), 0, 167, 60 * 168);
        clock(pausing(60, 100, 101), 0, 100, 59 * 168 + 101);
    }

    static void promise27_theLastHourBehindWhichItEnds() {
        Recorded x = with(3);
        x.set(0, 'z', 1);
        x.hours(0, 2, 4, false);
        clock(x, 0, 0, 5);
        x.set(0, 'l', 2);
        clock(x, 0, 0, 2);
    }

    // ---- promise 28

    static void promise28_0WithoutTasks() {
        Check.is("all", new Recorded().clockAll(), 0);
    }

    static void promise28_someTaskNeverBegins() {
        Recorded x = with(1, 2, 1);
        x.hours(0, 1, WEEK, false);
        Check.fails(NEVER, x, y -> y.clockAll());
        x.set(1, 'l', 1);
        Check.is("all", x.clockAll(), 1);
        x.set(2, 'l', 2);
        Check.fails("the last one never", NEVER, x, y -> y.clockAll());
        x.undo();
        x.set(0, 'l', 2);
        Check.fails("the first one never", NEVER, x, y -> y.clockAll());
    }

    static void promise28_theGreatestOfAllEnds() {
        Check.is("all", with(9, 5, 7).clockAll(), 9);
        Check.is("all", with(5, 9, 7).clockAll(), 9);
        Check.is("all", with(5, 7, 9).clockAll(), 9);
    }

    static void promise28_theLongestBook() {
        Recorded x = row(20, 60, 30);
        for (int task = 0; task < 20; task++) {
            x.set(task, 'z', 1);
        }
        Check.is("all hours", x.clockAll(), 1770);
        workOnly(x, 167, WEEK);
        Check.is("an hour a week", x.clockAll(), 1200 * 168);
        clock(x, 19, 1140 * 168 + 167, 1200 * 168);
    }
}
