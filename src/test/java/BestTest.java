import java.util.Random;

/** The least end with like hands, held against all begins there are, for small books. */
public final class BestTest {

    private static int[] lengths;
    private static int[][] needs;

    public static void main(String[] args) {
        Random random = new Random(41);
        Check.promise(41);
        for (int round = 0; round < 400; round++) {
            CriticalweekPlans x = smallBook(random);
            int horizon = 0;
            for (int length : lengths) {
                horizon += length;
            }
            horizon += 2 * (lengths.length - 1);
            for (int hands = 1; hands <= 3; hands++) {
                int[] begins = new int[lengths.length];
                Check.is("best", x.best(hands), leastEnd(begins, 0, hands, horizon));
            }
        }
        Check.close();
    }

    private static CriticalweekPlans smallBook(Random random) {
        CriticalweekPlans x = new CriticalweekPlans();
        lengths = new int[2 + random.nextInt(3)];
        for (int task = 0; task < lengths.length; task++) {
            lengths[task] = 1 + random.nextInt(3);
            x.task(lengths[task]);
        }
        for (int later = 0; later < lengths.length; later++) {
            for (int earlier = 0; earlier < later; earlier++) {
                if (random.nextInt(3) == 0) {
                    x.need(earlier, later, random.nextInt(3));
                }
            }
        }
        needs = new int[x.needs()][];
        for (int number = 0; number < needs.length; number++) {
            needs[number] = new int[] {x.needAt(number, 'e'), x.needAt(number, 'l'), x.needAt(number, 'g')};
        }
        return x;
    }

    private static int leastEnd(int[] begins, int task, int hands, int horizon) {
        if (task == begins.length) {
            return endOf(begins, hands, horizon);
        }
        int least = Integer.MAX_VALUE;
        for (int begin = 0; begin + lengths[task] <= horizon; begin++) {
            begins[task] = begin;
            least = Math.min(least, leastEnd(begins, task + 1, hands, horizon));
        }
        return least;
    }

    private static int endOf(int[] begins, int hands, int horizon) {
        for (int[] need : needs) {
            if (begins[need[1]] < begins[need[0]] + lengths[need[0]] + need[2]) {
                return Integer.MAX_VALUE;
            }
        }
        int end = 0;
        for (int hour = 0; hour < horizon; hour++) {
            int many = 0;
            for (int task = 0; task < begins.length; task++) {
                many += begins[task] <= hour && hour < begins[task] + lengths[task] ? 1 : 0;
            }
            if (many > hands) {
                return Integer.MAX_VALUE;
            }
            end = many > 0 ? hour + 1 : end;
        }
        return end;
    }
}
