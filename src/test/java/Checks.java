import java.math.BigInteger;
import java.util.Objects;

/** What the tests of the promises share: answers that are due, calls that are refused, and ships. */
final class Checks {
    static final String INDEX = "throws.IndexOutOfBoundsException";
    static final String ARGUMENT = "throws.IllegalArgumentException";
    static final String STATE = "throws.IllegalStateException";
    static final int LEAST = Integer.MIN_VALUE;
    static final int MOST = Integer.MAX_VALUE;
    /** Times 5 this wraps around to 1, so a place reckoned from such a bay would lie on the ship. */
    static final int WRAPS_BY_ROWS = -858993459;
    /** Times 4, or times 20, this wraps around to 0, as WRAPS_BY_ROWS does times 5. */
    static final int WRAPS_BY_TIERS = 1 << 30;
    static final int[] NO_BAYS = {LEAST, WRAPS_BY_ROWS, -1, 6, 7, WRAPS_BY_TIERS, MOST};
    static final int[] NO_ROWS = {LEAST, WRAPS_BY_ROWS, -1, 5, 6, WRAPS_BY_TIERS, MOST};

    /** A call whose answer is looked at. */
    interface Call {
        Object answer();
    }

    /** A way to a ship in some state, taken anew for each refused call. */
    interface Recipe {
        StowagePlan make();
    }

    /** A call on a ship that a recipe made. */
    interface Act {
        Object on(StowagePlan plan);
    }

    private static int sentences = 0;
    private static int checks = 0;
    private static int wrong = 0;
    private static String sentence = "";

    private Checks() {
    }

    /** The test of one sentence; a call in it that throws unasked is a fault of this test alone. */
    static void sentence(String words, Runnable test) {
        sentence = words;
        sentences++;
        try {
            test.run();
        } catch (RuntimeException e) {
            fault("threw " + e);
        }
    }

    static void due(Object want, Call call) {
        checks++;
        Object got = answerOf(call);
        if (!Objects.equals(want, got)) {
            fault("answered " + got + ", due is " + want);
        }
    }

    /** The call throws this on the ship that the recipe makes, and leaves all that is told as it was. */
    static void refused(String want, Recipe recipe, Act call) {
        StowagePlan plan = recipe.make();
        String before = everything(plan);
        due(want, () -> call.on(plan));
        due(before, () -> everything(plan));
    }

    /** The same on a ship that is used further: it looks at little, as an object stands 512 calls. */
    static void refusedOn(String want, StowagePlan plan, Call call) {
        String before = some(plan);
        due(want, call);
        due(before, () -> some(plan));
    }

    /** Ends the program; with code 1 if a check was wrong. */
    static void end() {
        System.out.println(sentences + " sentences, " + checks + " checks, " + wrong + " wrong");
        if (wrong != 0) {
            System.exit(1);
        }
    }

    private static void fault(String what) {
        wrong++;
        String place = StackWalker.getInstance().walk(frames -> frames
                .filter(frame -> !frame.getClassName().startsWith("Checks"))
                .filter(frame -> !frame.getMethodName().equals("main"))
                .findFirst().map(frame -> frame.getFileName() + ":" + frame.getLineNumber()).orElse("in main"));
        System.out.println(sentence + " (" + place + "): " + what);
    }

    private static Object answerOf(Call call) {
        try {
            return call.answer();
        } catch (RuntimeException e) {
            return "throws." + e.getClass().getSimpleName();
        }
    }

    private static String some(StowagePlan plan) {
        return plan.digest() + " " + plan.count(true) + " " + plan.count(false) + " " + plan.height()
                + " " + plan.blocked() + " " + plan.freePlugs();
    }

    /** Some 150 calls: two of these and what makes a ship stay within the 512 calls of an object. */
    private static String everything(StowagePlan plan) {
        StringBuilder text = new StringBuilder();
        text.append(plan.digest()).append(' ').append(plan.port()).append(' ').append(plan.lifted());
        for (int bay = 0; bay < 6; bay++) {
            for (int row = 0; row < 5; row++) {
                for (int tier = 0; tier < 4; tier++) {
                    text.append(' ').append(plan.at(bay, row, tier));
                }
            }
            text.append(' ').append(plan.weight(bay)).append(' ').append(plan.lifts(bay));
        }
        text.append(' ').append(plan.count(true)).append(' ').append(plan.count(false));
        text.append(' ').append(plan.moment(true)).append(' ').append(plan.moment(false));
        text.append(' ').append(plan.blocked()).append(' ').append(plan.isSteady());
        return text.append(' ').append(plan.freePlugs()).append(' ').append(plan.height()).toString();
    }

    // ---- ships

    /** Numbers to write where a method takes several. */
    static int[] numbers(int... numbers) {
        return numbers;
    }

    /** A new ship with containers on the quays, each as its weight, from, to and kind. */
    static StowagePlan quay(int[]... containers) {
        StowagePlan plan = new StowagePlan();
        for (int[] c : containers) {
            plan.addContainer(c[0], c[1], c[2], c[3]);
        }
        return plan;
    }

    /** A new ship with a stack in bay 2 and row 2: DRY containers of weight 1 to these ports, from below. */
    static StowagePlan stackTo(int... ports) {
        StowagePlan plan = new StowagePlan();
        for (int port : ports) {
            plan.load(plan.addContainer(1, 0, port, 0), 2, 2);
        }
        return plan;
    }

    /** A new ship with a stack in bay 2 and row 2: DRY containers to port 5 with these weights. */
    static StowagePlan stackOf(int... weights) {
        StowagePlan plan = new StowagePlan();
        plan.setLimits(120, 60, 200);
        for (int weight : weights) {
            plan.load(plan.addContainer(weight, 0, 5, 0), 2, 2);
        }
        return plan;
    }

    /** A new ship with so many equal DRY containers on the quay of port 0. */
    static StowagePlan waiting(int howMany, int weight, int to) {
        StowagePlan plan = new StowagePlan();
        for (int i = 0; i < howMany; i++) {
            plan.addContainer(weight, 0, to, 0);
        }
        return plan;
    }

    /** Loads a new DRY container to port 5, where it stands alone or uppermost; answers the ship. */
    static StowagePlan with(StowagePlan plan, int weight, int bay, int row) {
        plan.load(plan.addContainer(weight, plan.port(), 5, 0), bay, row);
        return plan;
    }

    /** Sails so many times; answers the ship. */
    static StowagePlan sailed(StowagePlan plan, int times) {
        for (int i = 0; i < times; i++) {
            plan.sail();
        }
        return plan;
    }

    /** The checksum of these numbers, by arithmetic without a bound that is cut to 64 bits at its end. */
    static long checksum(long... numbers) {
        BigInteger d = BigInteger.valueOf(283);
        for (long x : numbers) {
            d = d.multiply(BigInteger.valueOf(31)).add(BigInteger.valueOf(x));
        }
        return d.longValue();
    }
}
