import java.util.ArrayDeque;
import java.util.Deque;
import java.util.Map;
import java.util.Random;
import java.util.TreeMap;

/**
 * Runs of 512 chosen calls on the class and on PlainModel, whose answers must be the same. In some
 * runs each other call is digest(), in some it is rare; the last one is digest() always.
 */
public final class RandomRunsTest {
    private static final int RUNS = 600;
    private static final int CALLS = 512;
    private static final int SHOWN = 12;
    private static final int[] WILD = {Checks.LEAST, Checks.WRAPS_BY_ROWS, -1, 0, 1, 4, 5, 6, 39, 40, 41,
        Checks.WRAPS_BY_TIERS, Checks.MOST};

    /** Often called ones stand more than once. */
    private static final String[] CALLS_MADE = {
        "addContainer", "addContainer", "addContainer", "addContainer", "addContainer", "addContainer",
        "container", "setLimits", "setPlug", "setPlug", "canLoad", "canLoad",
        "load", "load", "load", "load", "load", "load", "load", "load", "load", "load", "load", "load",
        "lift", "lift", "plan", "sail", "port", "at", "where", "moment", "height", "isSteady",
        "count", "weight", "blocked", "lifts", "freePlugs", "choices", "lifted", "digest",
    };

    private static final Map<String, Integer> seen = new TreeMap<>();

    private final Random random;
    private final StowagePlan plan = new StowagePlan();
    private final PlainModel model = new PlainModel();
    private final int planOneIn;
    private final int sailOneIn;
    private final int narrow;
    private final int digestOneIn;

    private RandomRunsTest(long seed) {
        random = new Random(seed);
        planOneIn = 1 + random.nextInt(12);
        sailOneIn = 1 + random.nextInt(8);
        narrow = 1 + random.nextInt(6);
        digestOneIn = 1 + random.nextInt(6);
    }

    private static String real(StowagePlan plan, String name, int a, int b, int c, int d) {
        try {
            return answer(plan, name, a, b, c, d);
        } catch (RuntimeException e) {
            return "throws." + e.getClass().getSimpleName();
        }
    }

    private static String answer(StowagePlan plan, String name, int a, int b, int c, int d) {
        switch (name) {
            case "addContainer": return "" + plan.addContainer(a, b, c, d);
            case "container": return "" + plan.container(a, b);
            case "setLimits": return "" + plan.setLimits(a, b, c);
            case "setPlug": return "" + plan.setPlug(a, b, (c & 1) == 1);
            case "canLoad": return "" + plan.canLoad(a, b, c);
            case "load": return "" + plan.load(a, b, c);
            case "lift": return "" + plan.lift(a, b);
            case "plan": return "" + plan.plan();
            case "sail": return "" + plan.sail();
            case "port": return "" + plan.port();
            case "at": return "" + plan.at(a, b, c);
            case "where": return "" + plan.where(a);
            case "moment": return "" + plan.moment((a & 1) == 1);
            case "height": return "" + plan.height();
            case "isSteady": return "" + plan.isSteady();
            case "count": return "" + plan.count((a & 1) == 1);
            case "weight": return "" + plan.weight(a);
            case "blocked": return "" + plan.blocked();
            case "lifts": return "" + plan.lifts(a);
            case "freePlugs": return "" + plan.freePlugs();
            case "choices": return "" + plan.choices(a);
            case "lifted": return "" + plan.lifted();
            case "digest": return "" + plan.digest();
            default: throw new AssertionError(name);
        }
    }

    /** A number from 0 to below the bound; now and then one that is not. */
    private int below(int bound) {
        return random.nextInt(60) == 0 ? WILD[random.nextInt(WILD.length)] : random.nextInt(bound);
    }

    private String nextCall(int number) {
        if (number == CALLS || random.nextInt(digestOneIn) == 0) {
            return "digest";
        }
        String name = CALLS_MADE[random.nextInt(CALLS_MADE.length)];
        if (name.equals("plan") && random.nextInt(planOneIn) != 0
                || name.equals("sail") && random.nextInt(sailOneIn) != 0) {
            return "load";
        }
        return name;
    }

    private int[] arguments(String name) {
        switch (name) {
            case "addContainer":
                int from = random.nextBoolean() ? model.port() : below(5);
                return new int[] {1 + below(random.nextBoolean() ? 30 : 8), from,
                    from < 5 && from >= 0 ? from + 1 + below(5 - from) : below(6), below(5)};
            case "container":
                return new int[] {below(30), below(5), 0, 0};
            case "setLimits":
                return random.nextInt(4) == 0 ? new int[] {below(122), below(1002), below(1002), 0}
                        : new int[] {60 + random.nextInt(61), 100 + random.nextInt(901), 200 + random.nextInt(801), 0};
            case "canLoad":
            case "load":
                return new int[] {below(40), below(6), below(narrow > 4 ? 5 : narrow), 0};
            case "setPlug":
            case "lift":
            case "at":
                return new int[] {below(6), below(narrow > 4 ? 5 : narrow), below(4), 0};
            case "where":
            case "choices":
                return new int[] {below(40), 0, 0, 0};
            default:
                return new int[] {below(6), 0, 0, 0};
        }
    }

    /** Whether all answers of this run are the same; shows the last calls where one is not. */
    private boolean holds(long seed) {
        Deque<String> last = new ArrayDeque<>();
        for (int i = 1; i <= CALLS; i++) {
            String name = nextCall(i);
            int[] x = arguments(name);
            String want = model.call(name, x[0], x[1], x[2], x[3]);
            String got = real(plan, name, x[0], x[1], x[2], x[3]);
            seen.merge(want.startsWith("throws.") ? name + " " + want : name, 1, Integer::sum);
            last.add(name + "(" + x[0] + ", " + x[1] + ", " + x[2] + ", " + x[3] + ") = " + got);
            if (last.size() > SHOWN) {
                last.remove();
            }
            if (!want.equals(got)) {
                System.out.println("seed " + seed + ", call " + i + ": due is " + want);
                last.forEach(System.out::println);
                return false;
            }
        }
        return true;
    }

    public static void main(String[] args) {
        for (long seed = 0; seed < RUNS; seed++) {
            if (!new RandomRunsTest(seed).holds(seed)) {
                System.exit(1);
            }
        }
        System.out.println(RUNS + " runs with the same answers: " + seen);
    }
}
