import java.util.Objects;

/** Worked examples of each promise of the document: ordinary inputs, its edges, and wrong inputs. */
public final class PromisesTest {
    private static final String INDEX = "throws.IndexOutOfBoundsException";
    private static final String ARGUMENT = "throws.IllegalArgumentException";
    private static final String STATE = "throws.IllegalStateException";
    private static final int LEAST = Integer.MIN_VALUE;
    private static final int MOST = Integer.MAX_VALUE;

    private interface Call {
        Object answer();
    }

    private static int checks = 0;
    private static int wrong = 0;
    private static String promise = "";

    private static void promise(int number, String name) {
        promise = "promise " + number + " (" + name + ")";
    }

    private static void due(Object want, Call call) {
        checks++;
        Object got;
        try {
            got = call.answer();
        } catch (RuntimeException e) {
            got = "throws." + e.getClass().getSimpleName();
        }
        if (!Objects.equals(want, got)) {
            wrong++;
            StackTraceElement place = new Throwable().getStackTrace()[1];
            System.out.println(promise + ", line " + place.getLineNumber() + ": answered " + got + ", due is " + want);
        }
    }

    /** A call that throws this, and leaves all that is told as it was. */
    private static void refused(String want, StowagePlan plan, Call call) {
        String before = everything(plan);
        due(want, call);
        due(before, () -> everything(plan));
    }

    private static String everything(StowagePlan plan) {
        StringBuilder text = new StringBuilder();
        text.append(plan.digest()).append(' ').append(plan.port()).append(' ').append(plan.lifted());
        for (int bay = 0; bay < 6; bay++) {
            for (int row = 0; row < 5; row++) {
                for (int tier = 0; tier < 4; tier++) {
                    text.append(' ').append(plan.at(bay, row, tier));
                }
            }
        }
        text.append(' ').append(plan.count(true)).append(' ').append(plan.count(false));
        return text.append(' ').append(plan.freePlugs()).append(' ').append(plan.height()).toString();
    }

    private static void newObject() {
        promise(1, "a new object");
        StowagePlan plan = new StowagePlan();
        due(0, plan::port);
        due(0, () -> plan.count(true));
        due(0, () -> plan.count(false));
        due(0, plan::lifted);
        due(0, plan::blocked);
        due(20, plan::freePlugs);
        due(true, plan::isSteady);
        due(INDEX, () -> plan.where(0));
        due(-1, () -> plan.at(0, 0, 0));
        due(-1, () -> plan.at(5, 4, 3));
        for (int bay = 0; bay < 6; bay++) {
            for (int row = 0; row < 5; row++) {
                int b = bay;
                int r = row;
                due(bay == 2 || bay == 3, () -> plan.setPlug(b, r, true));
            }
        }
        due(60, () -> plan.setLimits(60, 60, 200));
        due(0, () -> new StowagePlan().addContainer(1, 0, 1, 0));
    }

    private static void addContainer() {
        promise(2, "addContainer");
        StowagePlan plan = new StowagePlan();
        for (int weight : new int[] {LEAST, -1, 0, 31, MOST}) {
            refused(ARGUMENT, plan, () -> plan.addContainer(weight, 0, 1, 0));
        }
        for (int from : new int[] {LEAST, -1, 5, 6, MOST}) {
            refused(ARGUMENT, plan, () -> plan.addContainer(1, from, 5, 0));
        }
        for (int to : new int[] {LEAST, -1, 0, 1, 2, 6, MOST}) {
            refused(ARGUMENT, plan, () -> plan.addContainer(1, 2, to, 0));
        }
        refused(ARGUMENT, plan, () -> plan.addContainer(1, 0, 0, 0));
        refused(ARGUMENT, plan, () -> plan.addContainer(1, 4, 4, 0));
        for (int kind : new int[] {LEAST, -1, 5, MOST}) {
            refused(ARGUMENT, plan, () -> plan.addContainer(1, 0, 1, kind));
        }
        due(0, () -> plan.addContainer(1, 0, 1, 0));
        due(1, () -> plan.addContainer(30, 4, 5, 4));
        due(2, () -> plan.addContainer(30, 0, 5, 4));
        plan.sail();
        refused(STATE, plan, () -> plan.addContainer(5, 0, 5, 0));
        refused(ARGUMENT, plan, () -> plan.addContainer(0, 0, 5, 0));
        due(3, () -> plan.addContainer(5, 1, 2, 0));
        for (int number = 4; number < 40; number++) {
            int n = number;
            due(n, () -> plan.addContainer(1 + n % 30, 1 + n % 4, 5, n % 5));
        }
        refused(STATE, plan, () -> plan.addContainer(1, 1, 2, 0));
        refused(ARGUMENT, plan, () -> plan.addContainer(1, 1, 1, 0));
        due(39 % 30 + 1, () -> plan.container(39, 0));
    }

    private static void container() {
        promise(3, "container");
        StowagePlan plan = new StowagePlan();
        refused(INDEX, plan, () -> plan.container(0, 0));
        plan.addContainer(17, 0, 1, 0);
        plan.addContainer(9, 1, 3, 4);
        int[] first = {17, 0, 1, 0, 0};
        int[] second = {9, 1, 3, 4, 0};
        for (int what = 0; what < 5; what++) {
            int w = what;
            due(first[w], () -> plan.container(0, w));
            due(second[w], () -> plan.container(1, w));
        }
        for (int bad : new int[] {LEAST, -1, 5, 6, MOST}) {
            refused(INDEX, plan, () -> plan.container(0, bad));
        }
        for (int bad : new int[] {LEAST, -1, 2, 39, 40, 41, MOST}) {
            refused(INDEX, plan, () -> plan.container(bad, 0));
        }
        plan.load(0, 2, 2);
        due(1, () -> plan.container(0, 4));
        due(0, () -> plan.container(1, 4));
        plan.lift(2, 2);
        due(0, () -> plan.container(0, 4));
        plan.load(0, 2, 2);
        plan.sail();
        due(2, () -> plan.container(0, 4));
        due(17, () -> plan.container(0, 0));
        due(0, () -> plan.container(1, 4));
    }

    private static void setLimits() {
        promise(4, "setLimits");
        StowagePlan plan = new StowagePlan();
        for (int bad : new int[] {LEAST, -1, 0, 121, MOST}) {
            refused(ARGUMENT, plan, () -> plan.setLimits(bad, 60, 200));
        }
        for (int bad : new int[] {LEAST, -1, 1001, MOST}) {
            refused(ARGUMENT, plan, () -> plan.setLimits(60, bad, 200));
            refused(ARGUMENT, plan, () -> plan.setLimits(60, 60, bad));
        }
        due(60, () -> plan.setLimits(1, 0, 1000));
        due(1, () -> plan.setLimits(120, 1000, 0));
        due(120, () -> plan.setLimits(50, 7, 8));
        due(50, () -> plan.setLimits(60, 60, 200));
        plan.addContainer(30, 0, 5, 0);
        plan.addContainer(30, 0, 5, 0);
        plan.load(0, 2, 2);
        due(true, () -> plan.canLoad(1, 2, 2));
        plan.setLimits(59, 60, 200);
        due(false, () -> plan.canLoad(1, 2, 2));
        plan.setLimits(29, 60, 200);
        due(220, () -> plan.where(0));
        due(0, () -> plan.choices(1));
        plan.setLimits(30, 60, 30);
        due(29, () -> plan.choices(1));
        due(true, plan::isSteady);
        plan.setLimits(30, 60, 29);
        due(false, plan::isSteady);
    }

    private static void setPlug() {
        promise(5, "setPlug");
        StowagePlan plan = new StowagePlan();
        plan.addContainer(5, 0, 1, 1);
        plan.addContainer(6, 0, 2, 0);
        for (int bad : new int[] {LEAST, -1, 6, MOST}) {
            refused(INDEX, plan, () -> plan.setPlug(bad, 0, true));
            refused(INDEX, plan, () -> plan.setPlug(bad, 0, false));
        }
        for (int bad : new int[] {LEAST, -1, 5, MOST}) {
            refused(INDEX, plan, () -> plan.setPlug(0, bad, true));
            refused(INDEX, plan, () -> plan.setPlug(0, bad, false));
        }
        due(false, () -> plan.setPlug(0, 4, false));
        due(false, () -> plan.setPlug(0, 4, true));
        due(true, () -> plan.setPlug(0, 4, true));
        due(true, () -> plan.canLoad(0, 0, 4));
        plan.load(1, 0, 4);
        due(true, () -> plan.setPlug(0, 4, false));
        due(false, () -> plan.setPlug(0, 4, true));
        plan.load(0, 0, 4);
        refused(STATE, plan, () -> plan.setPlug(0, 4, false));
        due(true, () -> plan.setPlug(0, 4, true));
        plan.sail();
        due(true, () -> plan.setPlug(0, 4, false));
        due(false, () -> plan.setPlug(0, 4, false));
    }

    private static void canLoadAndItsRules() {
        promise(6, "canLoad");
        StowagePlan plan = new StowagePlan();
        plan.setLimits(60, 1000, 1000);
        plan.addContainer(20, 0, 5, 0);
        plan.addContainer(10, 1, 5, 0);
        plan.addContainer(30, 0, 5, 0);
        plan.addContainer(30, 0, 5, 0);
        plan.addContainer(30, 0, 5, 1);
        for (int bad : new int[] {LEAST, -1, 5, 40, MOST}) {
            refused(INDEX, plan, () -> plan.canLoad(bad, 0, 0));
        }
        for (int bad : new int[] {LEAST, -1, 6, MOST}) {
            refused(INDEX, plan, () -> plan.canLoad(0, bad, 0));
        }
        for (int bad : new int[] {LEAST, -1, 5, MOST}) {
            refused(INDEX, plan, () -> plan.canLoad(0, 0, bad));
        }
        due(true, () -> plan.canLoad(0, 0, 0));
        due(true, () -> plan.canLoad(0, 5, 4));
        due(false, () -> plan.canLoad(1, 0, 0));
        plan.load(2, 3, 0);
        due(true, () -> plan.canLoad(3, 3, 0));
        due(false, () -> plan.canLoad(2, 4, 0));
        plan.load(3, 3, 0);
        due(false, () -> plan.canLoad(0, 3, 0));
        plan.sail();
        due(true, () -> plan.canLoad(1, 0, 0));
        due(false, () -> plan.canLoad(0, 0, 0));
        fullStack();
        reefers();
        apart();
    }

    private static void fullStack() {
        StowagePlan plan = new StowagePlan();
        for (int i = 0; i < 5; i++) {
            plan.addContainer(1, 0, 1 + i, 0);
        }
        for (int i = 0; i < 4; i++) {
            int n = i;
            due(true, () -> plan.canLoad(n, 1, 1));
            due(i, () -> plan.load(n, 1, 1));
        }
        due(false, () -> plan.canLoad(4, 1, 1));
        due(29, () -> plan.choices(4));
        plan.sail();
        due(false, () -> plan.canLoad(0, 1, 1));
    }

    private static void reefers() {
        StowagePlan plan = new StowagePlan();
        for (int i = 0; i < 4; i++) {
            plan.addContainer(1, 0, 1, i == 0 ? 0 : 1);
        }
        due(false, () -> plan.canLoad(1, 1, 0));
        due(true, () -> plan.canLoad(1, 2, 0));
        due(true, () -> plan.canLoad(1, 3, 4));
        due(false, () -> plan.canLoad(1, 4, 4));
        plan.load(0, 2, 0);
        due(1, () -> plan.load(1, 2, 0));
        due(false, () -> plan.canLoad(2, 2, 0));
        plan.setPlug(5, 4, true);
        due(true, () -> plan.canLoad(2, 5, 4));
    }

    private static void apart() {
        for (int bay = 0; bay < 6; bay++) {
            for (int row = 0; row < 5; row++) {
                apartFrom(bay, row);
            }
        }
    }

    private static void apartFrom(int bay, int row) {
        StowagePlan plan = new StowagePlan();
        plan.addContainer(1, 0, 1, 3);
        for (int kind = 0; kind < 5; kind++) {
            plan.addContainer(1, 0, 1, kind);
        }
        plan.load(0, bay, row);
        for (int b = 0; b < 6; b++) {
            for (int r = 0; r < 5; r++) {
                int x = b;
                int y = r;
                int bays = b > bay ? b - bay : bay - b;
                int rows = r > row ? r - row : row - r;
                boolean isApart = bays > 1 || bays == 1 && rows > 1;
                due(true, () -> plan.canLoad(1, x, y));
                due(b == 2 || b == 3, () -> plan.canLoad(2, x, y));
                due(isApart, () -> plan.canLoad(3, x, y));
                due(true, () -> plan.canLoad(4, x, y));
                due(isApart, () -> plan.canLoad(5, x, y));
            }
        }
    }

    private static void load() {
        promise(7, "load");
        StowagePlan plan = new StowagePlan();
        plan.addContainer(20, 0, 5, 0);
        plan.addContainer(21, 0, 4, 3);
        plan.addContainer(20, 0, 5, 4);
        plan.addContainer(20, 0, 5, 0);
        plan.addContainer(1, 1, 5, 0);
        plan.addContainer(1, 0, 5, 1);
        for (int bad : new int[] {LEAST, -1, 6, 40, MOST}) {
            refused(INDEX, plan, () -> plan.load(bad, 0, 0));
            refused(INDEX, plan, () -> plan.load(0, bad, 0));
            refused(INDEX, plan, () -> plan.load(0, 0, bad));
        }
        refused(INDEX, plan, () -> plan.load(0, 0, 5));
        refused(INDEX, plan, () -> plan.load(4, 0, 5));
        refused(STATE, plan, () -> plan.load(4, 0, 0));
        refused(STATE, plan, () -> plan.load(5, 0, 0));
        due(0, () -> plan.load(0, 4, 3));
        due(1, () -> plan.load(1, 4, 3));
        due(430, () -> plan.where(0));
        due(431, () -> plan.where(1));
        refused(STATE, plan, () -> plan.load(0, 4, 3));
        refused(STATE, plan, () -> plan.load(0, 0, 0));
        refused(STATE, plan, () -> plan.load(3, 4, 3));
        refused(STATE, plan, () -> plan.load(2, 4, 0));
        refused(STATE, plan, () -> plan.load(2, 5, 4));
        due(0, () -> plan.load(2, 5, 1));
        due(0, () -> plan.load(5, 3, 0));
    }

    private static void lift() {
        promise(8, "lift");
        StowagePlan plan = new StowagePlan();
        plan.addContainer(5, 0, 5, 0);
        plan.addContainer(6, 0, 2, 0);
        plan.addContainer(7, 1, 4, 0);
        plan.addContainer(8, 1, 3, 0);
        for (int bad : new int[] {LEAST, -1, 6, MOST}) {
            refused(INDEX, plan, () -> plan.lift(bad, 0));
            refused(INDEX, plan, () -> plan.lift(0, bad));
        }
        refused(INDEX, plan, () -> plan.lift(0, 5));
        refused(STATE, plan, () -> plan.lift(0, 0));
        plan.load(0, 2, 2);
        plan.load(1, 2, 2);
        due(1, () -> plan.lift(2, 2));
        due(-1, () -> plan.where(1));
        due(0, () -> plan.container(1, 4));
        due(220, () -> plan.where(0));
        due(-1, () -> plan.at(2, 2, 1));
        due(true, () -> plan.canLoad(1, 5, 0));
        due(1, () -> plan.load(1, 2, 2));
        plan.sail();
        refused(STATE, plan, () -> plan.lift(2, 2));
        due(2, () -> plan.load(2, 2, 2));
        due(3, () -> plan.load(3, 2, 2));
        due(3, () -> plan.lift(2, 2));
        due(2, () -> plan.lift(2, 2));
        refused(STATE, plan, () -> plan.lift(2, 2));
        due(2, () -> plan.count(false));
        due(0, plan::lifted);
    }

    private static void plan() {
        promise(9, "plan");
        due(0, () -> new StowagePlan().plan());
        planOrder();
        planAboveEarlier();
        planBalance();
        planWhatItCan();
    }

    private static void planOrder() {
        // With this limit a stack takes one container, and all want to stand amidships.
        StowagePlan plan = new StowagePlan();
        plan.setLimits(10, 1000, 1000);
        plan.addContainer(8, 0, 2, 0);
        plan.addContainer(6, 0, 3, 0);
        plan.addContainer(7, 0, 3, 0);
        plan.addContainer(7, 0, 3, 0);
        plan.addContainer(9, 1, 5, 0);
        plan.addContainer(11, 0, 5, 0);
        due(4, plan::plan);
        due(220, () -> plan.where(2));
        due(320, () -> plan.where(3));
        due(120, () -> plan.where(1));
        due(420, () -> plan.where(0));
        due(-1, () -> plan.where(4));
        due(-1, () -> plan.where(5));
        due(0, plan::plan);
        due(4, () -> plan.count(false));
        due(1, () -> plan.count(true));
    }

    private static void planAboveEarlier() {
        StowagePlan plan = new StowagePlan();
        for (int bay = 0; bay < 6; bay++) {
            plan.addContainer(1, 0, 1, 0);
            plan.load(bay, bay, 2);
        }
        plan.addContainer(10, 0, 3, 0);
        due(1, plan::plan);
        // Row 2 would leave the list at 0, but there it would stand above one that is landed earlier.
        due(210, () -> plan.where(6));
        // Both places with power are above one that is landed earlier: the list decides.
        StowagePlan both = new StowagePlan();
        for (int bay = 2; bay < 4; bay++) {
            for (int row = 0; row < 5; row++) {
                both.setPlug(bay, row, bay == 2 && row == 0 || bay == 3 && row == 2);
            }
        }
        both.addContainer(1, 0, 1, 0);
        both.addContainer(1, 0, 1, 0);
        both.load(0, 2, 0);
        both.load(1, 3, 2);
        both.addContainer(5, 0, 3, 1);
        due(1, both::plan);
        due(321, () -> both.where(2));
        StowagePlan same = new StowagePlan();
        same.addContainer(10, 0, 3, 0);
        same.addContainer(10, 0, 3, 0);
        same.addContainer(3, 0, 3, 0);
        same.load(0, 2, 2);
        same.load(1, 3, 2);
        due(1, same::plan);
        due(221, () -> same.where(2));
    }

    private static void planBalance() {
        StowagePlan plan = new StowagePlan();
        plan.addContainer(6, 0, 5, 0);
        plan.addContainer(3, 0, 5, 0);
        plan.load(0, 2, 1);
        due(1, plan::plan);
        // List -6 before: row 4 makes it 0. Trim -6 before: bay 3 makes it -3, bay 4 makes it 3.
        due(340, () -> plan.where(1));
        due(0, () -> plan.moment(false));
        due(-3, () -> plan.moment(true));
        StowagePlan wide = new StowagePlan();
        wide.addContainer(10, 0, 5, 0);
        wide.addContainer(10, 0, 5, 0);
        wide.load(0, 1, 3);
        due(1, wide::plan);
        due(410, () -> wide.where(1));
        StowagePlan rows = new StowagePlan();
        rows.setLimits(2, 1000, 1000);
        rows.addContainer(1, 0, 5, 0);
        rows.addContainer(2, 0, 5, 0);
        rows.load(0, 2, 3);
        due(1, rows::plan);
        // List 1 before: row 1 makes it -1, row 2 leaves it 1; both as near. Trim -1: bay 3 makes it 1;
        // bay 2 makes it -3. Of the two rows the smaller.
        due(310, () -> rows.where(1));
    }

    private static void planWhatItCan() {
        StowagePlan plan = new StowagePlan();
        for (int bay = 2; bay < 4; bay++) {
            for (int row = 0; row < 5; row++) {
                plan.setPlug(bay, row, bay == 2 && row == 0);
            }
        }
        for (int i = 0; i < 4; i++) {
            plan.addContainer(10, 0, 4, 1);
        }
        plan.addContainer(1, 0, 2, 0);
        due(3, plan::plan);
        due(200, () -> plan.where(0));
        due(201, () -> plan.where(1));
        due(-1, () -> plan.where(2));
        due(-1, () -> plan.where(3));
        due(1, () -> plan.container(4, 4));
        due(2, () -> plan.count(true));
        due(0, plan::plan);
        StowagePlan whole = new StowagePlan();
        for (int i = 0; i < 40; i++) {
            whole.addContainer(1, 0, 1, 0);
        }
        due(40, whole::plan);
    }

    private static StowagePlan loadedStack(int... ports) {
        StowagePlan plan = new StowagePlan();
        for (int i = 0; i < ports.length; i++) {
            plan.addContainer(i + 1, 0, ports[i], 0);
            plan.load(i, 2, 2);
        }
        return plan;
    }

    private static void sail() {
        promise(10, "sail");
        StowagePlan plan = loadedStack(3, 1, 5, 2);
        due(2, plan::sail);
        due(220, () -> plan.where(0));
        due(-1, () -> plan.where(1));
        due(221, () -> plan.where(2));
        due(222, () -> plan.where(3));
        due(-1, () -> plan.at(2, 2, 3));
        due(2, () -> plan.container(1, 4));
        due(0, plan::sail);
        due(2, plan::lifted);
        due(1, plan::sail);
        due(220, () -> plan.where(2));
        due(3, plan::lifted);
        due(0, plan::sail);
        due(0, plan::sail);
        due(5, plan::port);
        due(0, () -> plan.count(false));
        refused(STATE, plan, plan::sail);
        StowagePlan between = loadedStack(1, 2, 1, 3);
        due(2, between::sail);
        due(1, () -> between.at(2, 2, 0));
        due(3, () -> between.at(2, 2, 1));
        StowagePlan several = new StowagePlan();
        several.addContainer(2, 0, 1, 0);
        several.addContainer(2, 0, 2, 0);
        several.addContainer(2, 0, 1, 0);
        several.addContainer(2, 0, 2, 0);
        several.load(0, 0, 0);
        several.load(1, 0, 0);
        several.load(2, 5, 4);
        several.load(3, 5, 4);
        due(2, several::sail);
        due(0, () -> several.where(1));
        due(540, () -> several.where(3));
        StowagePlan leaning = new StowagePlan();
        leaning.addContainer(30, 0, 1, 0);
        leaning.load(0, 2, 4);
        due(0, leaning::sail);
        StowagePlan fallen = new StowagePlan();
        fallen.addContainer(30, 0, 1, 0);
        fallen.load(0, 2, 4);
        fallen.setLimits(60, 59, 200);
        refused(STATE, fallen, fallen::sail);
        due(0, fallen::port);
    }

    private static void port() {
        promise(11, "port");
        StowagePlan plan = new StowagePlan();
        for (int port = 0; port < 5; port++) {
            due(port, plan::port);
            plan.sail();
        }
        due(5, plan::port);
    }

    private static void at() {
        promise(12, "at");
        StowagePlan plan = new StowagePlan();
        plan.addContainer(1, 0, 2, 0);
        plan.addContainer(1, 0, 1, 0);
        plan.load(1, 5, 4);
        plan.load(0, 5, 4);
        due(1, () -> plan.at(5, 4, 0));
        due(0, () -> plan.at(5, 4, 1));
        due(-1, () -> plan.at(5, 4, 2));
        due(-1, () -> plan.at(4, 4, 0));
        due(-1, () -> plan.at(5, 3, 0));
        for (int bad : new int[] {LEAST, -1, 6, MOST}) {
            refused(INDEX, plan, () -> plan.at(bad, 0, 0));
            refused(INDEX, plan, () -> plan.at(0, bad, 0));
            refused(INDEX, plan, () -> plan.at(0, 0, bad));
        }
        refused(INDEX, plan, () -> plan.at(0, 5, 0));
        refused(INDEX, plan, () -> plan.at(0, 0, 4));
    }

    private static void where() {
        promise(13, "where");
        StowagePlan plan = new StowagePlan();
        refused(INDEX, plan, () -> plan.where(0));
        plan.addContainer(1, 0, 1, 0);
        plan.addContainer(1, 0, 2, 0);
        due(-1, () -> plan.where(0));
        plan.load(0, 0, 0);
        plan.load(1, 5, 4);
        due(0, () -> plan.where(0));
        due(540, () -> plan.where(1));
        for (int bad : new int[] {LEAST, -1, 2, 39, 40, MOST}) {
            refused(INDEX, plan, () -> plan.where(bad));
        }
        plan.sail();
        due(-1, () -> plan.where(0));
        due(540, () -> plan.where(1));
    }

    private static void moment() {
        promise(14, "moment");
        StowagePlan plan = new StowagePlan();
        due(0, () -> plan.moment(true));
        plan.addContainer(7, 0, 1, 0);
        plan.addContainer(11, 0, 2, 0);
        plan.addContainer(3, 0, 2, 0);
        plan.load(0, 0, 0);
        due(-14, () -> plan.moment(false));
        due(-35, () -> plan.moment(true));
        plan.load(1, 5, 4);
        due(8, () -> plan.moment(false));
        due(20, () -> plan.moment(true));
        plan.load(2, 5, 4);
        due(14, () -> plan.moment(false));
        due(35, () -> plan.moment(true));
        plan.sail();
        due(28, () -> plan.moment(false));
        due(70, () -> plan.moment(true));
    }

    private static void height() {
        promise(15, "height");
        StowagePlan plan = new StowagePlan();
        due(0.0, plan::height);
        plan.addContainer(20, 0, 1, 0);
        plan.addContainer(10, 0, 2, 0);
        plan.addContainer(15, 0, 3, 0);
        plan.addContainer(1, 0, 3, 0);
        due(0.0, plan::height);
        plan.load(0, 2, 2);
        due(1.0, plan::height);
        plan.load(1, 2, 2);
        due(50.0 / 30.0, plan::height);
        plan.load(2, 2, 2);
        due(125.0 / 45.0, plan::height);
        plan.load(3, 2, 2);
        due(132.0 / 46.0, plan::height);
        plan.sail();
        due((10 + 45 + 5) / 26.0, plan::height);
    }

    private static void isSteady() {
        promise(16, "isSteady");
        StowagePlan plan = new StowagePlan();
        plan.setLimits(60, 0, 0);
        due(true, plan::isSteady);
        plan.addContainer(30, 0, 1, 0);
        plan.load(0, 3, 2);
        due(false, plan::isSteady);
        plan.setLimits(60, 0, 30);
        due(true, plan::isSteady);
        plan.setLimits(60, 0, 29);
        due(false, plan::isSteady);
        plan.lift(3, 2);
        plan.load(0, 2, 1);
        plan.setLimits(60, 30, 30);
        due(true, plan::isSteady);
        plan.setLimits(60, 29, 30);
        due(false, plan::isSteady);
        plan.setLimits(60, 30, 29);
        due(false, plan::isSteady);
        StowagePlan first = new StowagePlan();
        first.addContainer(30, 0, 1, 0);
        first.addContainer(30, 0, 1, 0);
        first.load(0, 2, 4);
        due(true, first::isSteady);
        first.load(1, 3, 3);
        due(false, first::isSteady);
        heightBound();
    }

    private static void heightBound() {
        // Weights 1, 1, 1 and w on top: the height is (1 + 3 + 5 + 7w) / (3 + w), which is 5 at w = 3.
        for (int top = 1; top <= 30; top++) {
            StowagePlan plan = new StowagePlan();
            plan.setLimits(60, 1000, 1000);
            for (int tier = 0; tier < 4; tier++) {
                plan.addContainer(tier == 3 ? top : 1, 0, 1, 0);
                plan.load(tier, 2, 2);
            }
            due(top <= 3, plan::isSteady);
            due(top == 3, () -> plan.height() == 5.0);
            if (top > 3) {
                refused(STATE, plan, plan::sail);
            }
        }
    }

    private static void count() {
        promise(17, "count");
        StowagePlan plan = new StowagePlan();
        plan.addContainer(1, 0, 1, 0);
        plan.addContainer(1, 0, 2, 0);
        plan.addContainer(1, 0, 2, 0);
        plan.addContainer(1, 1, 2, 0);
        due(3, () -> plan.count(true));
        due(0, () -> plan.count(false));
        plan.load(0, 2, 2);
        plan.load(1, 3, 2);
        due(1, () -> plan.count(true));
        due(2, () -> plan.count(false));
        plan.sail();
        due(1, () -> plan.count(true));
        due(1, () -> plan.count(false));
        plan.sail();
        due(0, () -> plan.count(true));
        due(0, () -> plan.count(false));
    }

    private static void weight() {
        promise(18, "weight");
        StowagePlan plan = new StowagePlan();
        for (int bad : new int[] {LEAST, -1, 6, MOST}) {
            refused(INDEX, plan, () -> plan.weight(bad));
        }
        plan.addContainer(7, 0, 1, 0);
        plan.addContainer(11, 0, 2, 0);
        plan.addContainer(13, 0, 2, 0);
        plan.addContainer(17, 0, 2, 0);
        plan.load(0, 5, 0);
        plan.load(1, 5, 0);
        plan.load(2, 5, 4);
        plan.load(3, 0, 1);
        due(31, () -> plan.weight(5));
        due(0, () -> plan.weight(4));
        due(17, () -> plan.weight(0));
        plan.sail();
        due(24, () -> plan.weight(5));
    }

    private static void blocked() {
        promise(19, "blocked");
        due(0, () -> loadedStack(5, 4, 3, 2).blocked());
        due(0, () -> loadedStack(2, 2, 2, 2).blocked());
        due(3, () -> loadedStack(1, 2, 3, 4).blocked());
        due(3, () -> loadedStack(1, 2, 3, 5).blocked());
        due(3, () -> loadedStack(2, 3, 1, 4).blocked());
        due(1, () -> loadedStack(1, 4, 3, 2).blocked());
        due(2, () -> loadedStack(2, 2, 3).blocked());
        due(1, () -> loadedStack(2, 1, 2).blocked());
        StowagePlan plan = new StowagePlan();
        plan.addContainer(1, 0, 1, 0);
        plan.addContainer(1, 0, 2, 0);
        plan.addContainer(1, 0, 3, 0);
        plan.load(0, 1, 1);
        plan.load(1, 1, 2);
        due(0, plan::blocked);
        plan.load(2, 1, 2);
        due(1, plan::blocked);
    }

    private static void lifts() {
        promise(20, "lifts");
        StowagePlan plan = loadedStack(2, 1, 3, 2);
        int[] want = {0, 2, 2, 1, 0, 0};
        for (int port = 0; port < 6; port++) {
            int p = port;
            due(want[p], () -> plan.lifts(p));
        }
        for (int bad : new int[] {LEAST, -1, 6, MOST}) {
            refused(INDEX, plan, () -> plan.lifts(bad));
        }
        plan.sail();
        due(0, () -> plan.lifts(1));
        due(1, () -> plan.lifts(2));
        StowagePlan two = loadedStack(1, 5);
        two.addContainer(1, 0, 1, 0);
        two.addContainer(1, 0, 4, 0);
        two.addContainer(1, 0, 1, 0);
        two.load(2, 0, 0);
        two.load(3, 0, 0);
        two.load(4, 0, 0);
        due(2, () -> two.lifts(1));
        due(1, () -> two.lifts(4));
        due(2, two::sail);
    }

    private static void freePlugs() {
        promise(21, "freePlugs");
        StowagePlan plan = loadedStack(1, 2);
        due(18, plan::freePlugs);
        plan.addContainer(1, 0, 1, 0);
        plan.load(2, 2, 2);
        due(18, plan::freePlugs);
        plan.addContainer(1, 0, 1, 1);
        plan.load(3, 3, 0);
        due(17, plan::freePlugs);
        plan.setPlug(0, 0, true);
        due(19, plan::freePlugs);
        plan.addContainer(1, 0, 1, 0);
        plan.load(4, 1, 0);
        due(19, plan::freePlugs);
        plan.setPlug(1, 0, true);
        due(20, plan::freePlugs);
        plan.setPlug(2, 2, false);
        due(20, plan::freePlugs);
        plan.setPlug(2, 2, true);
        plan.sail();
        due(23, plan::freePlugs);
    }

    private static void choices() {
        promise(22, "choices");
        StowagePlan plan = new StowagePlan();
        plan.addContainer(30, 0, 1, 0);
        plan.addContainer(30, 0, 2, 1);
        plan.addContainer(30, 0, 2, 0);
        plan.addContainer(1, 0, 2, 2);
        plan.addContainer(1, 0, 2, 4);
        plan.addContainer(1, 1, 2, 0);
        for (int bad : new int[] {LEAST, -1, 6, 40, MOST}) {
            refused(INDEX, plan, () -> plan.choices(bad));
        }
        due(30, () -> plan.choices(0));
        due(10, () -> plan.choices(1));
        due(0, () -> plan.choices(5));
        plan.load(0, 2, 2);
        due(0, () -> plan.choices(0));
        due(10, () -> plan.choices(1));
        plan.load(1, 2, 2);
        due(29, () -> plan.choices(2));
        plan.load(3, 0, 0);
        due(22, () -> plan.choices(4));
        plan.sail();
        due(0, () -> plan.choices(0));
        due(30, () -> plan.choices(5));
    }

    private static void lifted() {
        promise(23, "lifted");
        StowagePlan plan = loadedStack(1, 4, 2, 5);
        due(0, plan::lifted);
        plan.lift(2, 2);
        due(0, plan::lifted);
        plan.load(3, 2, 2);
        plan.sail();
        due(3, plan::lifted);
        plan.sail();
        due(4, plan::lifted);
        plan.sail();
        due(4, plan::lifted);
        plan.sail();
        due(5, plan::lifted);
        plan.sail();
        due(5, plan::lifted);
    }

    private static long checksum(long... numbers) {
        long d = 283;
        for (long x : numbers) {
            d = d * 31 + x;
        }
        return d;
    }

    private static void digest() {
        promise(24, "digest");
        due(checksum(0, 0, 60, 60, 200,
                0, 0, 0, 0, 0, 0, 0, 0, 0, 0, 1, 1, 1, 1, 1, 1, 1, 1, 1, 1, 0, 0, 0, 0, 0, 0, 0, 0, 0, 0,
                0, 0, 0), () -> new StowagePlan().digest());
        StowagePlan plan = new StowagePlan();
        plan.addContainer(7, 0, 1, 0);
        plan.addContainer(6, 0, 4, 1);
        plan.addContainer(5, 1, 5, 4);
        plan.setLimits(70, 80, 190);
        plan.load(0, 3, 1);
        plan.load(1, 3, 1);
        plan.setPlug(0, 4, true);
        plan.setPlug(2, 1, false);
        due(checksum(0, 3, 7, 0, 1, 0, 1, 310, 6, 0, 4, 1, 1, 311, 5, 1, 5, 4, 0, -1, 70, 80, 190,
                0, 0, 0, 0, 1, 0, 0, 0, 0, 0, 1, 0, 1, 1, 1, 1, 1, 1, 1, 1, 0, 0, 0, 0, 0, 0, 0, 0, 0, 0,
                -13, 13, 0), plan::digest);
        plan.sail();
        due(checksum(1, 3, 7, 0, 1, 0, 2, -1, 6, 0, 4, 1, 1, 310, 5, 1, 5, 4, 0, -1, 70, 80, 190,
                0, 0, 0, 0, 1, 0, 0, 0, 0, 0, 1, 0, 1, 1, 1, 1, 1, 1, 1, 1, 0, 0, 0, 0, 0, 0, 0, 0, 0, 0,
                -6, 6, 1), plan::digest);
    }

    public static void main(String[] args) {
        newObject();
        addContainer();
        container();
        setLimits();
        setPlug();
        canLoadAndItsRules();
        load();
        lift();
        plan();
        sail();
        port();
        at();
        where();
        moment();
        height();
        isSteady();
        count();
        weight();
        blocked();
        lifts();
        freePlugs();
        choices();
        lifted();
        digest();
        System.out.println(checks + " checks, " + wrong + " wrong");
        if (wrong != 0) {
            System.exit(1);
        }
    }
}
