/** Worked examples of each promise of the document: ordinary inputs, its edges, and wrong inputs. */
public final class PromisesTest {
    private static final String INDEX = Checks.INDEX;
    private static final String ARGUMENT = Checks.ARGUMENT;
    private static final String STATE = Checks.STATE;
    private static final int LEAST = Checks.LEAST;
    private static final int MOST = Checks.MOST;

    private static void newObject() {
        StowagePlan plan = new StowagePlan();
        Checks.due(0, plan::port);
        Checks.due(0, () -> plan.count(true));
        Checks.due(0, () -> plan.count(false));
        Checks.due(0, plan::lifted);
        Checks.due(0, plan::blocked);
        Checks.due(20, plan::freePlugs);
        Checks.due(true, plan::isSteady);
        Checks.due(INDEX, () -> plan.where(0));
        Checks.due(-1, () -> plan.at(0, 0, 0));
        Checks.due(-1, () -> plan.at(5, 4, 3));
        for (int bay = 0; bay < 6; bay++) {
            for (int row = 0; row < 5; row++) {
                int b = bay;
                int r = row;
                Checks.due(bay == 2 || bay == 3, () -> plan.setPlug(b, r, true));
            }
        }
        Checks.due(60, () -> plan.setLimits(60, 60, 200));
        Checks.due(0, () -> new StowagePlan().addContainer(1, 0, 1, 0));
    }

    private static void addContainer() {
        StowagePlan plan = new StowagePlan();
        for (int weight : new int[] {LEAST, -1, 0, 31, MOST}) {
            Checks.refusedOn(ARGUMENT, plan, () -> plan.addContainer(weight, 0, 1, 0));
        }
        for (int from : new int[] {LEAST, -1, 5, 6, MOST}) {
            Checks.refusedOn(ARGUMENT, plan, () -> plan.addContainer(1, from, 5, 0));
        }
        for (int to : new int[] {LEAST, -1, 0, 1, 2, 6, MOST}) {
            Checks.refusedOn(ARGUMENT, plan, () -> plan.addContainer(1, 2, to, 0));
        }
        Checks.refusedOn(ARGUMENT, plan, () -> plan.addContainer(1, 0, 0, 0));
        Checks.refusedOn(ARGUMENT, plan, () -> plan.addContainer(1, 4, 4, 0));
        for (int kind : new int[] {LEAST, -1, 5, MOST}) {
            Checks.refusedOn(ARGUMENT, plan, () -> plan.addContainer(1, 0, 1, kind));
        }
        Checks.due(0, () -> plan.addContainer(1, 0, 1, 0));
        Checks.due(1, () -> plan.addContainer(30, 4, 5, 4));
        Checks.due(2, () -> plan.addContainer(30, 0, 5, 4));
        plan.sail();
        Checks.refusedOn(STATE, plan, () -> plan.addContainer(5, 0, 5, 0));
        Checks.refusedOn(ARGUMENT, plan, () -> plan.addContainer(0, 0, 5, 0));
        Checks.due(3, () -> plan.addContainer(5, 1, 2, 0));
        for (int number = 4; number < 40; number++) {
            int n = number;
            Checks.due(n, () -> plan.addContainer(1 + n % 30, 1 + n % 4, 5, n % 5));
        }
        Checks.refusedOn(STATE, plan, () -> plan.addContainer(1, 1, 2, 0));
        Checks.refusedOn(ARGUMENT, plan, () -> plan.addContainer(1, 1, 1, 0));
        Checks.due(39 % 30 + 1, () -> plan.container(39, 0));
    }

    private static void container() {
        StowagePlan plan = new StowagePlan();
        Checks.refusedOn(INDEX, plan, () -> plan.container(0, 0));
        plan.addContainer(17, 0, 1, 0);
        plan.addContainer(9, 1, 3, 4);
        int[] first = {17, 0, 1, 0, 0};
        int[] second = {9, 1, 3, 4, 0};
        for (int what = 0; what < 5; what++) {
            int w = what;
            Checks.due(first[w], () -> plan.container(0, w));
            Checks.due(second[w], () -> plan.container(1, w));
        }
        for (int bad : new int[] {LEAST, -1, 5, 6, MOST}) {
            Checks.refusedOn(INDEX, plan, () -> plan.container(0, bad));
        }
        for (int bad : new int[] {LEAST, -1, 2, 39, 40, 41, MOST}) {
            Checks.refusedOn(INDEX, plan, () -> plan.container(bad, 0));
        }
        plan.load(0, 2, 2);
        Checks.due(1, () -> plan.container(0, 4));
        Checks.due(0, () -> plan.container(1, 4));
        plan.lift(2, 2);
        Checks.due(0, () -> plan.container(0, 4));
        plan.load(0, 2, 2);
        plan.sail();
        Checks.due(2, () -> plan.container(0, 4));
        Checks.due(17, () -> plan.container(0, 0));
        Checks.due(0, () -> plan.container(1, 4));
    }

    private static void setLimits() {
        StowagePlan plan = new StowagePlan();
        for (int bad : new int[] {LEAST, -1, 0, 121, MOST}) {
            Checks.refusedOn(ARGUMENT, plan, () -> plan.setLimits(bad, 60, 200));
        }
        for (int bad : new int[] {LEAST, -1, 1001, MOST}) {
            Checks.refusedOn(ARGUMENT, plan, () -> plan.setLimits(60, bad, 200));
            Checks.refusedOn(ARGUMENT, plan, () -> plan.setLimits(60, 60, bad));
        }
        Checks.due(60, () -> plan.setLimits(1, 0, 1000));
        Checks.due(1, () -> plan.setLimits(120, 1000, 0));
        Checks.due(120, () -> plan.setLimits(50, 7, 8));
        Checks.due(50, () -> plan.setLimits(60, 60, 200));
        plan.addContainer(30, 0, 5, 0);
        plan.addContainer(30, 0, 5, 0);
        plan.load(0, 2, 2);
        Checks.due(true, () -> plan.canLoad(1, 2, 2));
        plan.setLimits(59, 60, 200);
        Checks.due(false, () -> plan.canLoad(1, 2, 2));
        plan.setLimits(29, 60, 200);
        Checks.due(220, () -> plan.where(0));
        Checks.due(0, () -> plan.choices(1));
        plan.setLimits(30, 60, 30);
        Checks.due(29, () -> plan.choices(1));
        Checks.due(true, plan::isSteady);
        plan.setLimits(30, 60, 29);
        Checks.due(false, plan::isSteady);
    }

    private static void setPlug() {
        StowagePlan plan = new StowagePlan();
        plan.addContainer(5, 0, 1, 1);
        plan.addContainer(6, 0, 2, 0);
        for (int bad : new int[] {LEAST, -1, 6, MOST}) {
            Checks.refusedOn(INDEX, plan, () -> plan.setPlug(bad, 0, true));
            Checks.refusedOn(INDEX, plan, () -> plan.setPlug(bad, 0, false));
        }
        for (int bad : new int[] {LEAST, -1, 5, MOST}) {
            Checks.refusedOn(INDEX, plan, () -> plan.setPlug(0, bad, true));
            Checks.refusedOn(INDEX, plan, () -> plan.setPlug(0, bad, false));
        }
        Checks.due(false, () -> plan.setPlug(0, 4, false));
        Checks.due(false, () -> plan.setPlug(0, 4, true));
        Checks.due(true, () -> plan.setPlug(0, 4, true));
        Checks.due(true, () -> plan.canLoad(0, 0, 4));
        plan.load(1, 0, 4);
        Checks.due(true, () -> plan.setPlug(0, 4, false));
        Checks.due(false, () -> plan.setPlug(0, 4, true));
        plan.load(0, 0, 4);
        Checks.refusedOn(STATE, plan, () -> plan.setPlug(0, 4, false));
        Checks.due(true, () -> plan.setPlug(0, 4, true));
        plan.sail();
        Checks.due(true, () -> plan.setPlug(0, 4, false));
        Checks.due(false, () -> plan.setPlug(0, 4, false));
    }

    private static void canLoadAndItsRules() {
        StowagePlan plan = new StowagePlan();
        plan.setLimits(60, 1000, 1000);
        plan.addContainer(20, 0, 5, 0);
        plan.addContainer(10, 1, 5, 0);
        plan.addContainer(30, 0, 5, 0);
        plan.addContainer(30, 0, 5, 0);
        plan.addContainer(30, 0, 5, 1);
        for (int bad : new int[] {LEAST, -1, 5, 40, MOST}) {
            Checks.refusedOn(INDEX, plan, () -> plan.canLoad(bad, 0, 0));
        }
        for (int bad : new int[] {LEAST, -1, 6, MOST}) {
            Checks.refusedOn(INDEX, plan, () -> plan.canLoad(0, bad, 0));
        }
        for (int bad : new int[] {LEAST, -1, 5, MOST}) {
            Checks.refusedOn(INDEX, plan, () -> plan.canLoad(0, 0, bad));
        }
        Checks.due(true, () -> plan.canLoad(0, 0, 0));
        Checks.due(true, () -> plan.canLoad(0, 5, 4));
        Checks.due(false, () -> plan.canLoad(1, 0, 0));
        plan.load(2, 3, 0);
        Checks.due(true, () -> plan.canLoad(3, 3, 0));
        Checks.due(false, () -> plan.canLoad(2, 4, 0));
        plan.load(3, 3, 0);
        Checks.due(false, () -> plan.canLoad(0, 3, 0));
        plan.sail();
        Checks.due(true, () -> plan.canLoad(1, 0, 0));
        Checks.due(false, () -> plan.canLoad(0, 0, 0));
        fullStack();
        reefers();
        apart();
    }

    private static void fullStack() {
        StowagePlan plan = new StowagePlan();
        for (int i = 0; i < 5; i++) {
            plan.addContainer(1, 0, 1 + i, 0);
        }
        for (int i = 0; i < 4; i++) {
            int n = i;
            Checks.due(true, () -> plan.canLoad(n, 1, 1));
            Checks.due(i, () -> plan.load(n, 1, 1));
        }
        Checks.due(false, () -> plan.canLoad(4, 1, 1));
        Checks.due(29, () -> plan.choices(4));
        plan.sail();
        Checks.due(false, () -> plan.canLoad(0, 1, 1));
    }

    private static void reefers() {
        StowagePlan plan = new StowagePlan();
        for (int i = 0; i < 4; i++) {
            plan.addContainer(1, 0, 1, i == 0 ? 0 : 1);
        }
        Checks.due(false, () -> plan.canLoad(1, 1, 0));
        Checks.due(true, () -> plan.canLoad(1, 2, 0));
        Checks.due(true, () -> plan.canLoad(1, 3, 4));
        Checks.due(false, () -> plan.canLoad(1, 4, 4));
        plan.load(0, 2, 0);
        Checks.due(1, () -> plan.load(1, 2, 0));
        Checks.due(false, () -> plan.canLoad(2, 2, 0));
        plan.setPlug(5, 4, true);
        Checks.due(true, () -> plan.canLoad(2, 5, 4));
    }

    private static void apart() {
        for (int bay = 0; bay < 6; bay++) {
            for (int row = 0; row < 5; row++) {
                apartFrom(bay, row);
            }
        }
    }

    private static void apartFrom(int bay, int row) {
        StowagePlan plan = new StowagePlan();
        plan.addContainer(1, 0, 1, 3);
        for (int kind = 0; kind < 5; kind++) {
            plan.addContainer(1, 0, 1, kind);
        }
        plan.load(0, bay, row);
        for (int b = 0; b < 6; b++) {
            for (int r = 0; r < 5; r++) {
                int x = b;
                int y = r;
                int bays = b > bay ? b - bay : bay - b;
                int rows = r > row ? r - row : row - r;
                boolean isApart = bays > 1 || bays == 1 && rows > 1;
                Checks.due(true, () -> plan.canLoad(1, x, y));
                Checks.due(b == 2 || b == 3, () -> plan.canLoad(2, x, y));
                Checks.due(isApart, () -> plan.canLoad(3, x, y));
                Checks.due(true, () -> plan.canLoad(4, x, y));
                Checks.due(isApart, () -> plan.canLoad(5, x, y));
            }
        }
    }

    private static void load() {
        StowagePlan plan = new StowagePlan();
        plan.addContainer(20, 0, 5, 0);
        plan.addContainer(21, 0, 4, 3);
        plan.addContainer(20, 0, 5, 4);
        plan.addContainer(20, 0, 5, 0);
        plan.addContainer(1, 1, 5, 0);
        plan.addContainer(1, 0, 5, 1);
        for (int bad : new int[] {LEAST, -1, 6, 40, MOST}) {
            Checks.refusedOn(INDEX, plan, () -> plan.load(bad, 0, 0));
            Checks.refusedOn(INDEX, plan, () -> plan.load(0, bad, 0));
            Checks.refusedOn(INDEX, plan, () -> plan.load(0, 0, bad));
        }
        Checks.refusedOn(INDEX, plan, () -> plan.load(0, 0, 5));
        Checks.refusedOn(INDEX, plan, () -> plan.load(4, 0, 5));
        Checks.refusedOn(STATE, plan, () -> plan.load(4, 0, 0));
        Checks.refusedOn(STATE, plan, () -> plan.load(5, 0, 0));
        Checks.due(0, () -> plan.load(0, 4, 3));
        Checks.due(1, () -> plan.load(1, 4, 3));
        Checks.due(430, () -> plan.where(0));
        Checks.due(431, () -> plan.where(1));
        Checks.refusedOn(STATE, plan, () -> plan.load(0, 4, 3));
        Checks.refusedOn(STATE, plan, () -> plan.load(0, 0, 0));
        Checks.refusedOn(STATE, plan, () -> plan.load(3, 4, 3));
        Checks.refusedOn(STATE, plan, () -> plan.load(2, 4, 0));
        Checks.refusedOn(STATE, plan, () -> plan.load(2, 5, 4));
        Checks.due(0, () -> plan.load(2, 5, 1));
        Checks.due(0, () -> plan.load(5, 3, 0));
    }

    private static void lift() {
        StowagePlan plan = new StowagePlan();
        plan.addContainer(5, 0, 5, 0);
        plan.addContainer(6, 0, 2, 0);
        plan.addContainer(7, 1, 4, 0);
        plan.addContainer(8, 1, 3, 0);
        for (int bad : new int[] {LEAST, -1, 6, MOST}) {
            Checks.refusedOn(INDEX, plan, () -> plan.lift(bad, 0));
            Checks.refusedOn(INDEX, plan, () -> plan.lift(0, bad));
        }
        Checks.refusedOn(INDEX, plan, () -> plan.lift(0, 5));
        Checks.refusedOn(STATE, plan, () -> plan.lift(0, 0));
        plan.load(0, 2, 2);
        plan.load(1, 2, 2);
        Checks.due(1, () -> plan.lift(2, 2));
        Checks.due(-1, () -> plan.where(1));
        Checks.due(0, () -> plan.container(1, 4));
        Checks.due(220, () -> plan.where(0));
        Checks.due(-1, () -> plan.at(2, 2, 1));
        Checks.due(true, () -> plan.canLoad(1, 5, 0));
        Checks.due(1, () -> plan.load(1, 2, 2));
        plan.sail();
        Checks.refusedOn(STATE, plan, () -> plan.lift(2, 2));
        Checks.due(2, () -> plan.load(2, 2, 2));
        Checks.due(3, () -> plan.load(3, 2, 2));
        Checks.due(3, () -> plan.lift(2, 2));
        Checks.due(2, () -> plan.lift(2, 2));
        Checks.refusedOn(STATE, plan, () -> plan.lift(2, 2));
        Checks.due(2, () -> plan.count(false));
        Checks.due(0, plan::lifted);
    }

    private static void plan() {
        Checks.due(0, () -> new StowagePlan().plan());
        planOrder();
        planAboveEarlier();
        planBalance();
        planWhatItCan();
    }

    private static void planOrder() {
        // With this limit a stack takes one container, and all want to stand amidships.
        StowagePlan plan = new StowagePlan();
        plan.setLimits(10, 1000, 1000);
        plan.addContainer(8, 0, 2, 0);
        plan.addContainer(6, 0, 3, 0);
        plan.addContainer(7, 0, 3, 0);
        plan.addContainer(7, 0, 3, 0);
        plan.addContainer(9, 1, 5, 0);
        plan.addContainer(11, 0, 5, 0);
        Checks.due(4, plan::plan);
        Checks.due(220, () -> plan.where(2));
        Checks.due(320, () -> plan.where(3));
        Checks.due(120, () -> plan.where(1));
        Checks.due(420, () -> plan.where(0));
        Checks.due(-1, () -> plan.where(4));
        Checks.due(-1, () -> plan.where(5));
        Checks.due(0, plan::plan);
        Checks.due(4, () -> plan.count(false));
        Checks.due(1, () -> plan.count(true));
    }

    private static void planAboveEarlier() {
        StowagePlan plan = new StowagePlan();
        for (int bay = 0; bay < 6; bay++) {
            plan.addContainer(1, 0, 1, 0);
            plan.load(bay, bay, 2);
        }
        plan.addContainer(10, 0, 3, 0);
        Checks.due(1, plan::plan);
        // Row 2 would leave the list at 0, but there it would stand above one that is landed earlier.
        Checks.due(210, () -> plan.where(6));
        // Both places with power are above one that is landed earlier: the list decides.
        StowagePlan both = new StowagePlan();
        for (int bay = 2; bay < 4; bay++) {
            for (int row = 0; row < 5; row++) {
                both.setPlug(bay, row, bay == 2 && row == 0 || bay == 3 && row == 2);
            }
        }
        both.addContainer(1, 0, 1, 0);
        both.addContainer(1, 0, 1, 0);
        both.load(0, 2, 0);
        both.load(1, 3, 2);
        both.addContainer(5, 0, 3, 1);
        Checks.due(1, both::plan);
        Checks.due(321, () -> both.where(2));
        StowagePlan same = new StowagePlan();
        same.addContainer(10, 0, 3, 0);
        same.addContainer(10, 0, 3, 0);
        same.addContainer(3, 0, 3, 0);
        same.load(0, 2, 2);
        same.load(1, 3, 2);
        Checks.due(1, same::plan);
        Checks.due(221, () -> same.where(2));
    }

    private static void planBalance() {
        StowagePlan plan = new StowagePlan();
        plan.addContainer(6, 0, 5, 0);
        plan.addContainer(3, 0, 5, 0);
        plan.load(0, 2, 1);
        Checks.due(1, plan::plan);
        // List -6 before: row 4 makes it 0. Trim -6 before: bay 3 makes it -3, bay 4 makes it 3.
        Checks.due(340, () -> plan.where(1));
        Checks.due(0, () -> plan.moment(false));
        Checks.due(-3, () -> plan.moment(true));
        StowagePlan wide = new StowagePlan();
        wide.addContainer(10, 0, 5, 0);
        wide.addContainer(10, 0, 5, 0);
        wide.load(0, 1, 3);
        Checks.due(1, wide::plan);
        Checks.due(410, () -> wide.where(1));
        StowagePlan rows = new StowagePlan();
        rows.setLimits(2, 1000, 1000);
        rows.addContainer(1, 0, 5, 0);
        rows.addContainer(2, 0, 5, 0);
        rows.load(0, 2, 3);
        Checks.due(1, rows::plan);
        // List 1 before: row 1 makes it -1, row 2 leaves it 1; both as near. Trim -1: bay 3 makes it 1;
        // bay 2 makes it -3. Of the two rows the smaller.
        Checks.due(310, () -> rows.where(1));
    }

    private static void planWhatItCan() {
        StowagePlan plan = new StowagePlan();
        for (int bay = 2; bay < 4; bay++) {
            for (int row = 0; row < 5; row++) {
                plan.setPlug(bay, row, bay == 2 && row == 0);
            }
        }
        for (int i = 0; i < 4; i++) {
            plan.addContainer(10, 0, 4, 1);
        }
        plan.addContainer(1, 0, 2, 0);
        Checks.due(3, plan::plan);
        Checks.due(200, () -> plan.where(0));
        Checks.due(201, () -> plan.where(1));
        Checks.due(-1, () -> plan.where(2));
        Checks.due(-1, () -> plan.where(3));
        Checks.due(1, () -> plan.container(4, 4));
        Checks.due(2, () -> plan.count(true));
        Checks.due(0, plan::plan);
        StowagePlan whole = new StowagePlan();
        for (int i = 0; i < 40; i++) {
            whole.addContainer(1, 0, 1, 0);
        }
        Checks.due(40, whole::plan);
    }

    private static StowagePlan loadedStack(int... ports) {
        StowagePlan plan = new StowagePlan();
        for (int i = 0; i < ports.length; i++) {
            plan.addContainer(i + 1, 0, ports[i], 0);
            plan.load(i, 2, 2);
        }
        return plan;
    }

    private static void sail() {
        StowagePlan plan = loadedStack(3, 1, 5, 2);
        Checks.due(2, plan::sail);
        Checks.due(220, () -> plan.where(0));
        Checks.due(-1, () -> plan.where(1));
        Checks.due(221, () -> plan.where(2));
        Checks.due(222, () -> plan.where(3));
        Checks.due(-1, () -> plan.at(2, 2, 3));
        Checks.due(2, () -> plan.container(1, 4));
        Checks.due(0, plan::sail);
        Checks.due(2, plan::lifted);
        Checks.due(1, plan::sail);
        Checks.due(220, () -> plan.where(2));
        Checks.due(3, plan::lifted);
        Checks.due(0, plan::sail);
        Checks.due(0, plan::sail);
        Checks.due(5, plan::port);
        Checks.due(0, () -> plan.count(false));
        Checks.refusedOn(STATE, plan, plan::sail);
        StowagePlan between = loadedStack(1, 2, 1, 3);
        Checks.due(2, between::sail);
        Checks.due(1, () -> between.at(2, 2, 0));
        Checks.due(3, () -> between.at(2, 2, 1));
        StowagePlan several = new StowagePlan();
        several.addContainer(2, 0, 1, 0);
        several.addContainer(2, 0, 2, 0);
        several.addContainer(2, 0, 1, 0);
        several.addContainer(2, 0, 2, 0);
        several.load(0, 0, 0);
        several.load(1, 0, 0);
        several.load(2, 5, 4);
        several.load(3, 5, 4);
        Checks.due(2, several::sail);
        Checks.due(0, () -> several.where(1));
        Checks.due(540, () -> several.where(3));
        StowagePlan leaning = new StowagePlan();
        leaning.addContainer(30, 0, 1, 0);
        leaning.load(0, 2, 4);
        Checks.due(0, leaning::sail);
        StowagePlan fallen = new StowagePlan();
        fallen.addContainer(30, 0, 1, 0);
        fallen.load(0, 2, 4);
        fallen.setLimits(60, 59, 200);
        Checks.refusedOn(STATE, fallen, fallen::sail);
        Checks.due(0, fallen::port);
    }

    private static void port() {
        StowagePlan plan = new StowagePlan();
        for (int port = 0; port < 5; port++) {
            Checks.due(port, plan::port);
            plan.sail();
        }
        Checks.due(5, plan::port);
    }

    private static void at() {
        StowagePlan plan = new StowagePlan();
        plan.addContainer(1, 0, 2, 0);
        plan.addContainer(1, 0, 1, 0);
        plan.load(1, 5, 4);
        plan.load(0, 5, 4);
        Checks.due(1, () -> plan.at(5, 4, 0));
        Checks.due(0, () -> plan.at(5, 4, 1));
        Checks.due(-1, () -> plan.at(5, 4, 2));
        Checks.due(-1, () -> plan.at(4, 4, 0));
        Checks.due(-1, () -> plan.at(5, 3, 0));
        for (int bad : new int[] {LEAST, -1, 6, MOST}) {
            Checks.refusedOn(INDEX, plan, () -> plan.at(bad, 0, 0));
            Checks.refusedOn(INDEX, plan, () -> plan.at(0, bad, 0));
            Checks.refusedOn(INDEX, plan, () -> plan.at(0, 0, bad));
        }
        Checks.refusedOn(INDEX, plan, () -> plan.at(0, 5, 0));
        Checks.refusedOn(INDEX, plan, () -> plan.at(0, 0, 4));
    }

    private static void where() {
        StowagePlan plan = new StowagePlan();
        Checks.refusedOn(INDEX, plan, () -> plan.where(0));
        plan.addContainer(1, 0, 1, 0);
        plan.addContainer(1, 0, 2, 0);
        Checks.due(-1, () -> plan.where(0));
        plan.load(0, 0, 0);
        plan.load(1, 5, 4);
        Checks.due(0, () -> plan.where(0));
        Checks.due(540, () -> plan.where(1));
        for (int bad : new int[] {LEAST, -1, 2, 39, 40, MOST}) {
            Checks.refusedOn(INDEX, plan, () -> plan.where(bad));
        }
        plan.sail();
        Checks.due(-1, () -> plan.where(0));
        Checks.due(540, () -> plan.where(1));
    }

    private static void moment() {
        StowagePlan plan = new StowagePlan();
        Checks.due(0, () -> plan.moment(true));
        plan.addContainer(7, 0, 1, 0);
        plan.addContainer(11, 0, 2, 0);
        plan.addContainer(3, 0, 2, 0);
        plan.load(0, 0, 0);
        Checks.due(-14, () -> plan.moment(false));
        Checks.due(-35, () -> plan.moment(true));
        plan.load(1, 5, 4);
        Checks.due(8, () -> plan.moment(false));
        Checks.due(20, () -> plan.moment(true));
        plan.load(2, 5, 4);
        Checks.due(14, () -> plan.moment(false));
        Checks.due(35, () -> plan.moment(true));
        plan.sail();
        Checks.due(28, () -> plan.moment(false));
        Checks.due(70, () -> plan.moment(true));
    }

    private static void height() {
        StowagePlan plan = new StowagePlan();
        Checks.due(0.0, plan::height);
        plan.addContainer(20, 0, 1, 0);
        plan.addContainer(10, 0, 2, 0);
        plan.addContainer(15, 0, 3, 0);
        plan.addContainer(1, 0, 3, 0);
        Checks.due(0.0, plan::height);
        plan.load(0, 2, 2);
        Checks.due(1.0, plan::height);
        plan.load(1, 2, 2);
        Checks.due(50.0 / 30.0, plan::height);
        plan.load(2, 2, 2);
        Checks.due(125.0 / 45.0, plan::height);
        plan.load(3, 2, 2);
        Checks.due(132.0 / 46.0, plan::height);
        plan.sail();
        Checks.due((10 + 45 + 5) / 26.0, plan::height);
    }

    private static void isSteady() {
        StowagePlan plan = new StowagePlan();
        plan.setLimits(60, 0, 0);
        Checks.due(true, plan::isSteady);
        plan.addContainer(30, 0, 1, 0);
        plan.load(0, 3, 2);
        Checks.due(false, plan::isSteady);
        plan.setLimits(60, 0, 30);
        Checks.due(true, plan::isSteady);
        plan.setLimits(60, 0, 29);
        Checks.due(false, plan::isSteady);
        plan.lift(3, 2);
        plan.load(0, 2, 1);
        plan.setLimits(60, 30, 30);
        Checks.due(true, plan::isSteady);
        plan.setLimits(60, 29, 30);
        Checks.due(false, plan::isSteady);
        plan.setLimits(60, 30, 29);
        Checks.due(false, plan::isSteady);
        StowagePlan first = new StowagePlan();
        first.addContainer(30, 0, 1, 0);
        first.addContainer(30, 0, 1, 0);
        first.load(0, 2, 4);
        Checks.due(true, first::isSteady);
        first.load(1, 3, 3);
        Checks.due(false, first::isSteady);
        heightBound();
    }

    private static void heightBound() {
        // Weights 1, 1, 1 and w on top: the height is (1 + 3 + 5 + 7w) / (3 + w), which is 5 at w = 3.
        for (int top = 1; top <= 30; top++) {
            StowagePlan plan = new StowagePlan();
            plan.setLimits(60, 1000, 1000);
            for (int tier = 0; tier < 4; tier++) {
                plan.addContainer(tier == 3 ? top : 1, 0, 1, 0);
                plan.load(tier, 2, 2);
            }
            Checks.due(top <= 3, plan::isSteady);
            Checks.due(top == 3, () -> plan.height() == 5.0);
            if (top > 3) {
                Checks.refusedOn(STATE, plan, plan::sail);
            }
        }
    }

    private static void count() {
        StowagePlan plan = new StowagePlan();
        plan.addContainer(1, 0, 1, 0);
        plan.addContainer(1, 0, 2, 0);
        plan.addContainer(1, 0, 2, 0);
        plan.addContainer(1, 1, 2, 0);
        Checks.due(3, () -> plan.count(true));
        Checks.due(0, () -> plan.count(false));
        plan.load(0, 2, 2);
        plan.load(1, 3, 2);
        Checks.due(1, () -> plan.count(true));
        Checks.due(2, () -> plan.count(false));
        plan.sail();
        Checks.due(1, () -> plan.count(true));
        Checks.due(1, () -> plan.count(false));
        plan.sail();
        Checks.due(0, () -> plan.count(true));
        Checks.due(0, () -> plan.count(false));
    }

    private static void weight() {
        StowagePlan plan = new StowagePlan();
        for (int bad : new int[] {LEAST, -1, 6, MOST}) {
            Checks.refusedOn(INDEX, plan, () -> plan.weight(bad));
        }
        plan.addContainer(7, 0, 1, 0);
        plan.addContainer(11, 0, 2, 0);
        plan.addContainer(13, 0, 2, 0);
        plan.addContainer(17, 0, 2, 0);
        plan.load(0, 5, 0);
        plan.load(1, 5, 0);
        plan.load(2, 5, 4);
        plan.load(3, 0, 1);
        Checks.due(31, () -> plan.weight(5));
        Checks.due(0, () -> plan.weight(4));
        Checks.due(17, () -> plan.weight(0));
        plan.sail();
        Checks.due(24, () -> plan.weight(5));
    }

    private static void blocked() {
        Checks.due(0, () -> loadedStack(5, 4, 3, 2).blocked());
        Checks.due(0, () -> loadedStack(2, 2, 2, 2).blocked());
        Checks.due(3, () -> loadedStack(1, 2, 3, 4).blocked());
        Checks.due(3, () -> loadedStack(1, 2, 3, 5).blocked());
        Checks.due(3, () -> loadedStack(2, 3, 1, 4).blocked());
        Checks.due(1, () -> loadedStack(1, 4, 3, 2).blocked());
        Checks.due(2, () -> loadedStack(2, 2, 3).blocked());
        Checks.due(1, () -> loadedStack(2, 1, 2).blocked());
        StowagePlan plan = new StowagePlan();
        plan.addContainer(1, 0, 1, 0);
        plan.addContainer(1, 0, 2, 0);
        plan.addContainer(1, 0, 3, 0);
        plan.load(0, 1, 1);
        plan.load(1, 1, 2);
        Checks.due(0, plan::blocked);
        plan.load(2, 1, 2);
        Checks.due(1, plan::blocked);
    }

    private static void lifts() {
        StowagePlan plan = loadedStack(2, 1, 3, 2);
        int[] want = {0, 2, 2, 1, 0, 0};
        for (int port = 0; port < 6; port++) {
            int p = port;
            Checks.due(want[p], () -> plan.lifts(p));
        }
        for (int bad : new int[] {LEAST, -1, 6, MOST}) {
            Checks.refusedOn(INDEX, plan, () -> plan.lifts(bad));
        }
        plan.sail();
        Checks.due(0, () -> plan.lifts(1));
        Checks.due(1, () -> plan.lifts(2));
        StowagePlan two = loadedStack(1, 5);
        two.addContainer(1, 0, 1, 0);
        two.addContainer(1, 0, 4, 0);
        two.addContainer(1, 0, 1, 0);
        two.load(2, 0, 0);
        two.load(3, 0, 0);
        two.load(4, 0, 0);
        Checks.due(2, () -> two.lifts(1));
        Checks.due(1, () -> two.lifts(4));
        Checks.due(2, two::sail);
    }

    private static void freePlugs() {
        StowagePlan plan = loadedStack(1, 2);
        Checks.due(18, plan::freePlugs);
        plan.addContainer(1, 0, 1, 0);
        plan.load(2, 2, 2);
        Checks.due(18, plan::freePlugs);
        plan.addContainer(1, 0, 1, 1);
        plan.load(3, 3, 0);
        Checks.due(17, plan::freePlugs);
        plan.setPlug(0, 0, true);
        Checks.due(19, plan::freePlugs);
        plan.addContainer(1, 0, 1, 0);
        plan.load(4, 1, 0);
        Checks.due(19, plan::freePlugs);
        plan.setPlug(1, 0, true);
        Checks.due(20, plan::freePlugs);
        plan.setPlug(2, 2, false);
        Checks.due(20, plan::freePlugs);
        plan.setPlug(2, 2, true);
        plan.sail();
        Checks.due(23, plan::freePlugs);
    }

    private static void choices() {
        StowagePlan plan = new StowagePlan();
        plan.addContainer(30, 0, 1, 0);
        plan.addContainer(30, 0, 2, 1);
        plan.addContainer(30, 0, 2, 0);
        plan.addContainer(1, 0, 2, 2);
        plan.addContainer(1, 0, 2, 4);
        plan.addContainer(1, 1, 2, 0);
        for (int bad : new int[] {LEAST, -1, 6, 40, MOST}) {
            Checks.refusedOn(INDEX, plan, () -> plan.choices(bad));
        }
        Checks.due(30, () -> plan.choices(0));
        Checks.due(10, () -> plan.choices(1));
        Checks.due(0, () -> plan.choices(5));
        plan.load(0, 2, 2);
        Checks.due(0, () -> plan.choices(0));
        Checks.due(10, () -> plan.choices(1));
        plan.load(1, 2, 2);
        Checks.due(29, () -> plan.choices(2));
        plan.load(3, 0, 0);
        Checks.due(22, () -> plan.choices(4));
        plan.sail();
        Checks.due(0, () -> plan.choices(0));
        Checks.due(30, () -> plan.choices(5));
    }

    private static void lifted() {
        StowagePlan plan = loadedStack(1, 4, 2, 5);
        Checks.due(0, plan::lifted);
        plan.lift(2, 2);
        Checks.due(0, plan::lifted);
        plan.load(3, 2, 2);
        plan.sail();
        Checks.due(3, plan::lifted);
        plan.sail();
        Checks.due(4, plan::lifted);
        plan.sail();
        Checks.due(4, plan::lifted);
        plan.sail();
        Checks.due(5, plan::lifted);
        plan.sail();
        Checks.due(5, plan::lifted);
    }

    private static void digest() {
        Checks.due(Checks.checksum(0, 0, 60, 60, 200,
                0, 0, 0, 0, 0, 0, 0, 0, 0, 0, 1, 1, 1, 1, 1, 1, 1, 1, 1, 1, 0, 0, 0, 0, 0, 0, 0, 0, 0, 0,
                0, 0, 0), () -> new StowagePlan().digest());
        StowagePlan plan = new StowagePlan();
        plan.addContainer(7, 0, 1, 0);
        plan.addContainer(6, 0, 4, 1);
        plan.addContainer(5, 1, 5, 4);
        plan.setLimits(70, 80, 190);
        plan.load(0, 3, 1);
        plan.load(1, 3, 1);
        plan.setPlug(0, 4, true);
        plan.setPlug(2, 1, false);
        Checks.due(Checks.checksum(0, 3, 7, 0, 1, 0, 1, 310, 6, 0, 4, 1, 1, 311, 5, 1, 5, 4, 0, -1, 70, 80, 190,
                0, 0, 0, 0, 1, 0, 0, 0, 0, 0, 1, 0, 1, 1, 1, 1, 1, 1, 1, 1, 0, 0, 0, 0, 0, 0, 0, 0, 0, 0,
                -13, 13, 0), plan::digest);
        plan.sail();
        Checks.due(Checks.checksum(1, 3, 7, 0, 1, 0, 2, -1, 6, 0, 4, 1, 1, 310, 5, 1, 5, 4, 0, -1, 70, 80, 190,
                0, 0, 0, 0, 1, 0, 0, 0, 0, 0, 1, 0, 1, 1, 1, 1, 1, 1, 1, 1, 0, 0, 0, 0, 0, 0, 0, 0, 0, 0,
                -6, 6, 1), plan::digest);
    }

    public static void main(String[] args) {
        Checks.sentence("promise 1 (a new object)", PromisesTest::newObject);
        Checks.sentence("promise 2 (addContainer)", PromisesTest::addContainer);
        Checks.sentence("promise 3 (container)", PromisesTest::container);
        Checks.sentence("promise 4 (setLimits)", PromisesTest::setLimits);
        Checks.sentence("promise 5 (setPlug)", PromisesTest::setPlug);
        Checks.sentence("promise 6 (canLoad)", PromisesTest::canLoadAndItsRules);
        Checks.sentence("promise 7 (load)", PromisesTest::load);
        Checks.sentence("promise 8 (lift)", PromisesTest::lift);
        Checks.sentence("promise 9 (plan)", PromisesTest::plan);
        Checks.sentence("promise 10 (sail)", PromisesTest::sail);
        Checks.sentence("promise 11 (port)", PromisesTest::port);
        Checks.sentence("promise 12 (at)", PromisesTest::at);
        Checks.sentence("promise 13 (where)", PromisesTest::where);
        Checks.sentence("promise 14 (moment)", PromisesTest::moment);
        Checks.sentence("promise 15 (height)", PromisesTest::height);
        Checks.sentence("promise 16 (isSteady)", PromisesTest::isSteady);
        Checks.sentence("promise 17 (count)", PromisesTest::count);
        Checks.sentence("promise 18 (weight)", PromisesTest::weight);
        Checks.sentence("promise 19 (blocked)", PromisesTest::blocked);
        Checks.sentence("promise 20 (lifts)", PromisesTest::lifts);
        Checks.sentence("promise 21 (freePlugs)", PromisesTest::freePlugs);
        Checks.sentence("promise 22 (choices)", PromisesTest::choices);
        Checks.sentence("promise 23 (lifted)", PromisesTest::lifted);
        Checks.sentence("promise 24 (digest)", PromisesTest::digest);
        Checks.end();
    }
}
