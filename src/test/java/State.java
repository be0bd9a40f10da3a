/**
 * All of an object that can be asked, as one text. Each part is asked of an object made anew by the same
 * calls, so that parts which only a change can show are told too, and no object has too many calls.
 */
final class State {

    private static final String LETTERS = "lsmcpzwd";

    private final StringBuilder told = new StringBuilder();

    private State() {
    }

    static String of(Recorded on) {
        State state = new State();
        state.tellFacts(on.again());
        state.tellNeeds(on.again());
        state.tellCosts(on.again());
        state.tellBounds(on.again());
        state.tellGuesses(on.again());
        state.tellText(on.again());
        for (int calendar = 0; calendar < 4; calendar++) {
            state.tellCalendar(on.again(), calendar);
        }
        state.tellHands(on.again());
        state.tellList(on.again());
        state.tellPlan(on.again());
        state.tellKept(on.again());
        state.tellHistory(on.again());
        return state.told.toString();
    }

    private void tell(Object answer) {
        told.append(answer).append(' ');
    }

    private void part(String name) {
        told.append('\n').append(name).append(": ");
    }

    private void tellFacts(Recorded x) {
        part("tasks");
        int tasks = x.tasks();
        tell(tasks);
        for (int task = 0; task < tasks; task++) {
            for (char letter : LETTERS.toCharArray()) {
                tell(x.of(task, letter));
            }
        }
    }

    private void tellNeeds(Recorded x) {
        part("needs");
        int needs = x.needs();
        tell(needs);
        for (int number = 0; number < needs; number++) {
            tell(x.needAt(number, 'e') + "-" + x.needAt(number, 'l') + "+" + x.needAt(number, 'g'));
        }
    }

    private void tellCosts(Recorded x) {
        part("costs of ends");
        int least = x.leastEnd();
        tell(least);
        int end = Math.min(x.end(), least + 60);
        for (int time = least - 1; time <= end; time++) {
            int each = time;
            tell(Check.answer(() -> x.leastCost(each)));
        }
    }

    /** What a task can be shortened, and which lengths it cannot have, show only by changes. */
    private void tellBounds(Recorded x) {
        part("shortened, shortest, longest");
        int tasks = x.tasks();
        for (int task = 0; task < tasks; task++) {
            int each = task;
            tell(x.shorten(each, 0, 0));
            tell(Check.answer(() -> x.set(each, 'l', 1)));
            tell(Check.answer(() -> x.set(each, 'l', 60)));
        }
    }

    private void tellGuesses(Recorded x) {
        part("odds");
        tell(Check.answer(() -> x.allOdds()));
        int end = x.end();
        for (int time = end - 5; time <= end + 5; time++) {
            int each = time;
            tell(Check.answer(() -> x.oddsBy(each)));
        }
        int tasks = x.tasks();
        for (int task = 0; task < tasks; task++) {
            int each = task;
            tell(Check.answer(() -> x.oddsCritical(each)));
        }
    }

    private void tellText(Recorded x) {
        part("text");
        int signs = x.again().erase();
        tell(signs);
        for (int place = 0; place < signs; place++) {
            tell(x.signAt(place));
        }
    }

    private void tellCalendar(Recorded x, int calendar) {
        part("calendar " + calendar);
        for (int hour = 0; hour < 168; hour++) {
            told.append(x.isWork(calendar, hour) ? 'w' : '.');
        }
    }

    private void tellHands(Recorded x) {
        part("hands");
        for (int skill = 0; skill < 3; skill++) {
            tell(x.hands(skill, 1));
        }
    }

    private void tellList(Recorded x) {
        part("typed list");
        int tasks = x.tasks();
        for (int place = 0; place < tasks; place++) {
            tell(x.listed('t', place));
        }
        tell(x.wipe());
    }

    private void tellPlan(Recorded x) {
        part("plan");
        Object end = Check.answer(() -> x.planEnd());
        tell(end);
        if (!(end instanceof Integer)) {
            return;
        }
        int tasks = x.tasks();
        for (int task = 0; task < tasks; task++) {
            tell(x.planBegin(task) + "/" + x.planHand(task));
        }
        int many = x.proofLength();
        for (int place = 0; place < many; place++) {
            tell(x.proofAt(place));
        }
        tell(x.isProved());
        for (int skill = 0; skill < 3; skill++) {
            tell(x.busy(skill, 0));
        }
    }

    private void tellKept(Recorded x) {
        part("kept begins");
        tell(x.moved());
        int tasks = x.tasks();
        for (int task = 0; task < tasks; task++) {
            int each = task;
            tell(Check.answer(() -> x.movedBy(each)));
        }
    }

    private void tellHistory(Recorded x) {
        part("kept books");
        for (Object left = x.checksum(); left instanceof Number; left = Check.answer(() -> x.undo())) {
            tell(left + "=" + x.checksum() + "/" + Check.answer(() -> x.allOdds()) + "/" + x.leastEnd());
        }
    }
}
