import java.util.NoSuchElementException;
import java.util.function.BiConsumer;

/** What the tests have in common: the exceptions by short names, wrong numbers and letters, and books. */
abstract class Edges {

    static final Class<IllegalArgumentException> BAD = IllegalArgumentException.class;
    static final Class<IllegalStateException> STATE = IllegalStateException.class;
    static final Class<NoSuchElementException> NONE = NoSuchElementException.class;
    static final Class<IndexOutOfBoundsException> PLACE = IndexOutOfBoundsException.class;
    static final Class<UnsupportedOperationException> NEVER = UnsupportedOperationException.class;
    static final Class<ArithmeticException> RATIO = ArithmeticException.class;

    static final int LEAST = Integer.MIN_VALUE;
    static final int MOST = Integer.MAX_VALUE;

    static final String RULES = "nlrst";

    // ---- wrong numbers and letters

    /** Each of the numbers is refused by the call with that exception, and changes nothing. */
    static void refused(Class<? extends RuntimeException> due, Recorded x, BiConsumer<Recorded, Integer> call,
            int... numbers) {
        for (int number : numbers) {
            Check.fails("the call with " + number, due, x, y -> call.accept(y, number));
        }
    }

    static void refusedSigns(Class<? extends RuntimeException> due, Recorded x,
            BiConsumer<Recorded, Character> call, String signs) {
        for (char sign : signs.toCharArray()) {
            Check.fails("the call with the sign " + (int) sign, due, x, y -> call.accept(y, sign));
        }
    }

    /** There is no task of the numbers round those that there are. */
    static void noTask(Recorded x, BiConsumer<Recorded, Integer> call) {
        refused(NONE, x, call, -1, x.again().tasks(), LEAST, MOST);
    }

    /** Letters that are none of these, those that are like them but for the size or a byte among them. */
    static String lettersBut(String letters) {
        StringBuilder wrong = new StringBuilder();
        for (char letter = 'a'; letter <= 'z'; letter++) {
            if (letters.indexOf(letter) < 0) {
                wrong.append(letter);
            }
        }
        for (char letter : letters.toCharArray()) {
            wrong.append(Character.toUpperCase(letter)).append((char) (letter + 256));
        }
        return wrong.append((char) 0).append(' ').append((char) 65535).toString();
    }

    // ---- books

    /** A book with tasks of these lengths. */
    static Recorded with(int... lengths) {
        Recorded x = new Recorded();
        for (int length : lengths) {
            x.task(length);
        }
        return x;
    }

    static Recorded alike(int many, int length) {
        Recorded x = new Recorded();
        for (int task = 0; task < many; task++) {
            x.task(length);
        }
        return x;
    }

    /** Tasks of which each one but the first needs the one ahead of it. */
    static Recorded row(int many, int length, int lag) {
        Recorded x = alike(many, length);
        for (int task = 1; task < many; task++) {
            x.need(task - 1, task, lag);
        }
        return x;
    }

    static Recorded full() {
        return alike(20, 1);
    }

    /** Twelve tasks and fifty needs: each of 0 to 9 needs all below it, 10 needs 0 to 4, and 11 none. */
    static Recorded fullOfNeeds() {
        Recorded x = alike(12, 1);
        for (int later = 1; later < 12; later++) {
            for (int earlier = 0; earlier < later && x.needs() < 50; earlier++) {
                x.need(earlier, later, 0);
            }
        }
        return x;
    }

    static Recorded ofText(String text) {
        Recorded x = new Recorded();
        Check.isTrue("the reading of " + text, readText(x, text) >= 0);
        return x;
    }

    static int readText(Recorded x, String text) {
        x.erase();
        typeAll(x, text);
        return x.read();
    }

    static void typeAll(Recorded x, String text) {
        for (char sign : text.toCharArray()) {
            x.type(sign);
        }
    }

    /** All there is, so that all could be changed: ten kept books, a typed list, a plan, kept begins, a text. */
    static Recorded rich() {
        Recorded x = ofText("3;4:0+1;5:0;2:1,2");
        x.set(1, 's', 1);
        x.set(2, 'm', 1);
        x.set(3, 'p', 1);
        x.set(0, 'w', 500);
        x.set(0, 'd', 40);
        x.keep();
        x.set(0, 'l', 4);
        x.shorten(0, 2, 7);
        x.guess(1, 2, 6);
        x.set(2, 'c', 1);
        x.hours(1, 0, 10, false);
        x.hours(3, 100, 168, false);
        x.hands(0, 2);
        x.hands(2, 4);
        x.list(2);
        x.list(0);
        x.plan('t', 'p');
        x.hands(1, 3);
        typeAll(x, "7;x");
        return x;
    }
}
