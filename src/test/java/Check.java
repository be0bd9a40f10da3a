import java.util.function.Consumer;
import java.util.function.Supplier;

/** Counts what is as it is due and tells what is not. */
final class Check {

    private static int right;
    private static int wrong;
    private static String promise = "";

    private Check() {
    }

    static void promise(int number) {
        promise = "promise " + number;
    }

    static void is(String what, Object got, Object want) {
        if (want.equals(got)) {
            right++;
            return;
        }
        wrong++;
        System.out.println(promise + ": " + what + " is " + got + ", due is " + want);
    }

    static void isTrue(String what, boolean holds) {
        is(what, holds, true);
    }

    /** The call must throw just that exception, and nothing that can be asked may be otherwise behind it. */
    static void fails(Class<? extends RuntimeException> due, CriticalweekPlans on, Consumer<CriticalweekPlans> call) {
        String before = stateOf(on);
        Object thrown = "nothing";
        try {
            call.accept(on);
        } catch (RuntimeException exception) {
            thrown = exception.getClass();
        }
        is("what is thrown", thrown, due);
        is("the state behind a throw", stateOf(on), before);
    }

    /** All that can be asked without a change, as one text. */
    static String stateOf(CriticalweekPlans on) {
        StringBuilder state = new StringBuilder();
        state.append(on.checksum()).append(' ').append(on.leastEnd()).append(' ').append(on.moved());
        state.append(' ').append(answer(() -> on.allOdds()));
        for (int calendar = 0; calendar < 4; calendar++) {
            for (int hour = 0; hour < 168; hour++) {
                state.append(on.isWork(calendar, hour) ? 'w' : '.');
            }
        }
        for (int task = 0; task < on.tasks(); task++) {
            int each = task;
            state.append('\n').append(on.listed('t', task));
            state.append(' ').append(answer(() -> on.movedBy(each)));
            state.append(' ').append(answer(() -> on.planBegin(each)));
            state.append(' ').append(answer(() -> on.planHand(each)));
            state.append(' ').append(answer(() -> on.oddsCritical(each)));
        }
        for (int time = 0; time <= on.end(); time++) {
            int each = time;
            state.append(' ').append(answer(() -> on.leastCost(each)));
        }
        state.append(' ').append(answer(() -> on.planEnd())).append(' ').append(answer(() -> on.isProved()));
        return state.toString();
    }

    static Object answer(Supplier<Object> call) {
        try {
            return call.get();
        } catch (RuntimeException exception) {
            return exception.getClass().getName();
        }
    }

    static void close() {
        System.out.println(right + " checks right, " + wrong + " wrong");
        if (wrong > 0 || right == 0) {
            System.exit(1);
        }
    }
}
