import java.lang.reflect.InvocationTargetException;
import java.lang.reflect.Method;
import java.lang.reflect.Modifier;
import java.util.Arrays;
import java.util.Comparator;
import java.util.function.Consumer;
import java.util.function.Supplier;

/** Counts what is as it is due and tells what is not. */
final class Check {

    private static int right;
    private static int wrong;
    private static int tests;
    private static String label = "";

    private Check() {
    }

    static void promise(int number) {
        label = "promise " + number;
    }

    /** Runs each method promiseNN_case() of a class; its name tells the promise and the case. */
    static void runAll(Class<?> ofTests) {
        Method[] methods = ofTests.getDeclaredMethods();
        Arrays.sort(methods, Comparator.comparing(Method::getName));
        for (Method method : methods) {
            if (Modifier.isStatic(method.getModifiers()) && method.getName().matches("promise\\d\\d_\\w+")) {
                runOne(method);
            }
        }
        close();
    }

    private static void runOne(Method method) {
        label = method.getName();
        int before = right + wrong;
        try {
            method.invoke(null);
        } catch (InvocationTargetException thrown) {
            is("the way through the test", thrown.getCause(), "nothing thrown");
        } catch (IllegalAccessException exception) {
            is("the way into the test", exception, "open");
        }
        tests++;
        if (right + wrong == before) {
            is("the number of checks", 0, "1 or more");
        }
    }

    static void is(String what, Object got, Object want) {
        if (want.equals(got)) {
            right++;
            return;
        }
        wrong++;
        System.out.println(label + ": " + what + " is " + got + ", due is " + want);
    }

    static void isTrue(String what, boolean holds) {
        is(what, holds, true);
    }

    static void fails(Class<? extends RuntimeException> due, Recorded on, Consumer<Recorded> call) {
        fails("the call", due, on, call);
    }

    /** The call must throw just that exception, and nothing that can be asked may be otherwise behind it. */
    static void fails(String what, Class<? extends RuntimeException> due, Recorded on, Consumer<Recorded> call) {
        String before = State.of(on);
        Object thrown = "nothing";
        try {
            call.accept(on);
        } catch (RuntimeException exception) {
            thrown = exception.getClass();
        }
        is("what is thrown by " + what, thrown, due);
        is("the state behind " + what, State.of(on), before);
    }

    static Object answer(Supplier<Object> call) {
        try {
            return call.get();
        } catch (RuntimeException exception) {
            return exception.getClass().getName();
        }
    }

    static void close() {
        System.out.println((tests > 0 ? tests + " tests, " : "") + right + " checks right, " + wrong + " wrong");
        if (wrong > 0 || right == 0) {
            System.exit(1);
        }
    }
}
