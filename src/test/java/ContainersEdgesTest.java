/** The edges that the promises 1 to 5 name (containers and limits), a test for each sentence. */
public final class ContainersEdgesTest {
    private static StowagePlan one() {
        return Checks.waiting(1, 7, 5);
    }

    private static StowagePlan full() {
        return Checks.waiting(40, 1, 5);
    }

    // ---- promise 1: a new object

    private static void withoutContainers() {
        StowagePlan plan = new StowagePlan();
        for (int place = 0; place < 120; place++) {
            int p = place;
            Checks.due(-1, () -> plan.at(p / 20, p / 4 % 5, p % 4));
        }
        Checks.due(Checks.INDEX, () -> plan.container(0, 0));
        Checks.due(0, () -> plan.count(true));
        Checks.due(0, () -> plan.count(false));
        Checks.due(0, plan::plan);
        Checks.due(0, () -> plan.addContainer(1, 0, 1, 0));
    }

    private static void objectsStandAlone() {
        StowagePlan first = Checks.with(new StowagePlan(), 9, 2, 2);
        StowagePlan second = new StowagePlan();
        first.setLimits(61, 61, 201);
        first.setPlug(0, 0, true);
        first.sail();
        Checks.due(0, second::port);
        Checks.due(60, () -> second.setLimits(60, 60, 200));
        Checks.due(false, () -> second.setPlug(0, 0, false));
        Checks.due(-1, () -> second.at(2, 2, 0));
        Checks.due(Checks.INDEX, () -> second.where(0));
    }

    // ---- promise 2: addContainer

    private static void addsIt() {
        StowagePlan plan = new StowagePlan();
        for (int number = 0; number < 40; number++) {
            int n = number;
            int[] told = {1 + n % 30, n % 5, n % 5 + 1 + n % (5 - n % 5), n / 8, 0};
            Checks.due(n, () -> plan.addContainer(told[0], told[1], told[2], told[3]));
            for (int what = 0; what < 5; what++) {
                int w = what;
                Checks.due(told[w], () -> plan.container(n, w));
            }
            Checks.due(-1, () -> plan.where(n));
        }
    }

    private static void weightOneToThirty() {
        for (int weight : Checks.numbers(1, 2, 29, 30)) {
            StowagePlan plan = new StowagePlan();
            Checks.due(0, () -> plan.addContainer(weight, 0, 1, 0));
            Checks.due(weight, () -> plan.container(0, 0));
        }
        for (int weight : Checks.numbers(Checks.LEAST, -30, -1, 0, 31, 32, 256 + 30, Checks.MOST)) {
            Checks.refused(Checks.ARGUMENT, ContainersEdgesTest::one, plan -> plan.addContainer(weight, 0, 1, 0));
        }
    }

    private static void fromZeroToFour() {
        for (int from = 0; from < 5; from++) {
            int f = from;
            StowagePlan plan = new StowagePlan();
            Checks.due(0, () -> plan.addContainer(1, f, 5, 0));
            Checks.due(f, () -> plan.container(0, 1));
        }
        for (int from : Checks.numbers(Checks.LEAST, -2, -1)) {
            Checks.refused(Checks.ARGUMENT, ContainersEdgesTest::one, plan -> plan.addContainer(1, from, 1, 0));
            Checks.refused(Checks.ARGUMENT, ContainersEdgesTest::one, plan -> plan.addContainer(1, from, 0, 0));
        }
        for (int from : Checks.numbers(5, 6, Checks.MOST)) {
            Checks.refused(Checks.ARGUMENT, ContainersEdgesTest::one, plan -> plan.addContainer(1, from, 5, 0));
            Checks.refused(Checks.ARGUMENT, ContainersEdgesTest::one, plan -> plan.addContainer(1, from, 6, 0));
        }
    }

    private static void toGreaterThanFrom() {
        for (int from = 0; from < 5; from++) {
            for (int to = -1; to < 6; to++) {
                int f = from;
                int t = to;
                StowagePlan plan = new StowagePlan();
                Checks.due(to > from ? (Object) 0 : Checks.ARGUMENT, () -> plan.addContainer(1, f, t, 0));
            }
        }
        Checks.refused(Checks.ARGUMENT, ContainersEdgesTest::one, plan -> plan.addContainer(1, 0, 0, 0));
        Checks.refused(Checks.ARGUMENT, ContainersEdgesTest::one, plan -> plan.addContainer(1, 4, 4, 0));
        Checks.refused(Checks.ARGUMENT, ContainersEdgesTest::one, plan -> plan.addContainer(1, 0, Checks.LEAST, 0));
    }

    private static void toAtMostFive() {
        for (int from = 0; from < 5; from++) {
            int f = from;
            StowagePlan plan = new StowagePlan();
            Checks.due(0, () -> plan.addContainer(1, f, 5, 0));
            Checks.due(5, () -> plan.container(0, 2));
            Checks.refused(Checks.ARGUMENT, ContainersEdgesTest::one, ship -> ship.addContainer(1, f, 6, 0));
        }
        Checks.refused(Checks.ARGUMENT, ContainersEdgesTest::one, plan -> plan.addContainer(1, 0, Checks.MOST, 0));
    }

    private static void kindZeroToFour() {
        for (int kind = 0; kind < 5; kind++) {
            int k = kind;
            StowagePlan plan = new StowagePlan();
            Checks.due(0, () -> plan.addContainer(1, 0, 1, k));
            Checks.due(k, () -> plan.container(0, 3));
        }
        for (int kind : Checks.numbers(Checks.LEAST, -1, 5, 6, Checks.MOST)) {
            Checks.refused(Checks.ARGUMENT, ContainersEdgesTest::one, plan -> plan.addContainer(1, 0, 1, kind));
        }
    }

    private static void portThatIsLeft() {
        for (int port = 1; port < 6; port++) {
            int p = port;
            Checks.refused(Checks.STATE, () -> Checks.sailed(one(), p), plan -> plan.addContainer(1, p - 1, 5, 0));
            Checks.refused(Checks.STATE, () -> Checks.sailed(one(), p), plan -> plan.addContainer(1, 0, p, 0));
        }
        for (int port = 0; port < 5; port++) {
            int p = port;
            Checks.due(1, () -> Checks.sailed(one(), p).addContainer(1, p, 5, 0));
        }
        for (int from = 0; from < 5; from++) {
            int f = from;
            Checks.refused(Checks.STATE, () -> Checks.sailed(one(), 5), plan -> plan.addContainer(1, f, 5, 0));
        }
    }

    private static void fortyContainers() {
        Checks.due(39, () -> Checks.waiting(39, 1, 5).addContainer(1, 0, 1, 0));
        Checks.refused(Checks.STATE, ContainersEdgesTest::full, plan -> plan.addContainer(1, 0, 1, 0));
        Checks.refused(Checks.STATE, () -> Checks.sailed(full(), 1), plan -> plan.addContainer(1, 1, 5, 0));
        Checks.refused(Checks.STATE, () -> {
            StowagePlan plan = full();
            plan.plan();
            return Checks.sailed(plan, 1);
        }, plan -> plan.addContainer(1, 4, 5, 0));
    }

    // ---- promise 3: container

    private static void noSuchContainer() {
        for (int what = 0; what < 5; what++) {
            int w = what;
            for (int number : Checks.numbers(Checks.LEAST, -1, 0, 1, 39, 40, Checks.MOST)) {
                Checks.refused(Checks.INDEX, StowagePlan::new, plan -> plan.container(number, w));
            }
        }
        Checks.due(7, () -> one().container(0, 0));
        for (int number : Checks.numbers(Checks.LEAST, -1, 1, 2, 39, 40, Checks.MOST)) {
            Checks.refused(Checks.INDEX, ContainersEdgesTest::one, plan -> plan.container(number, 0));
        }
        Checks.due(1, () -> full().container(39, 0));
        for (int number : Checks.numbers(-1, 40, 41)) {
            Checks.refused(Checks.INDEX, ContainersEdgesTest::full, plan -> plan.container(number, 0));
        }
    }

    private static void noSuchQuestion() {
        int[] told = {7, 0, 5, 0, 0};
        for (int what = 0; what < 5; what++) {
            int w = what;
            Checks.due(told[w], () -> one().container(0, w));
        }
        for (int what : Checks.numbers(Checks.LEAST, -2, -1, 5, 6, Checks.MOST)) {
            Checks.refused(Checks.INDEX, ContainersEdgesTest::one, plan -> plan.container(0, what));
            Checks.refused(Checks.INDEX, ContainersEdgesTest::one, plan -> plan.container(1, what));
        }
    }

    private static void whetherItWaits() {
        StowagePlan plan = Checks.waiting(2, 1, 2);
        Checks.due(0, () -> plan.container(0, 4));
        plan.load(0, 2, 2);
        Checks.due(1, () -> plan.container(0, 4));
        plan.lift(2, 2);
        Checks.due(0, () -> plan.container(0, 4));
        plan.load(0, 2, 2);
        plan.sail();
        Checks.due(1, () -> plan.container(0, 4));
        plan.sail();
        Checks.due(2, () -> plan.container(0, 4));
        Checks.sailed(plan, 3);
        Checks.due(2, () -> plan.container(0, 4));
        // The other one was left on the quay: it waits there to the voyage's end.
        Checks.due(0, () -> plan.container(1, 4));
    }

    // ---- promise 4: setLimits

    private static void limitOfAStack() {
        for (int limit : Checks.numbers(1, 2, 119, 120)) {
            StowagePlan plan = new StowagePlan();
            Checks.due(60, () -> plan.setLimits(limit, 60, 200));
            Checks.due(limit, () -> plan.setLimits(60, 60, 200));
        }
        for (int limit : Checks.numbers(Checks.LEAST, -60, -1, 0, 121, 122, Checks.MOST)) {
            Checks.refused(Checks.ARGUMENT, ContainersEdgesTest::one, plan -> plan.setLimits(limit, 50, 100));
        }
    }

    private static void limitOfLists() {
        for (int limit : Checks.numbers(0, 1, 999, 1000)) {
            StowagePlan plan = new StowagePlan();
            Checks.due(60, () -> plan.setLimits(60, limit, 200));
            Checks.due(digestOfNew(60, limit, 200), plan::digest);
        }
        for (int limit : Checks.numbers(Checks.LEAST, -1, 1001, 1002, Checks.MOST)) {
            Checks.refused(Checks.ARGUMENT, ContainersEdgesTest::one, plan -> plan.setLimits(50, limit, 100));
        }
    }

    private static void limitOfTrims() {
        for (int limit : Checks.numbers(0, 1, 999, 1000)) {
            StowagePlan plan = new StowagePlan();
            Checks.due(60, () -> plan.setLimits(60, 60, limit));
            Checks.due(digestOfNew(60, 60, limit), plan::digest);
        }
        for (int limit : Checks.numbers(Checks.LEAST, -1, 1001, 1002, Checks.MOST)) {
            Checks.refused(Checks.ARGUMENT, ContainersEdgesTest::one, plan -> plan.setLimits(50, 50, limit));
        }
    }

    private static long digestOfNew(int stack, int list, int trim) {
        return Checks.checksum(0, 0, stack, list, trim, 0, 0, 0, 0, 0, 0, 0, 0, 0, 0, 1, 1, 1, 1, 1, 1, 1, 1, 1, 1,
                0, 0, 0, 0, 0, 0, 0, 0, 0, 0, 0, 0, 0);
    }

    private static void theLimitBefore() {
        StowagePlan plan = new StowagePlan();
        Checks.due(60, () -> plan.setLimits(120, 10, 20));
        Checks.due(120, () -> plan.setLimits(1, 30, 40));
        Checks.due(Checks.ARGUMENT, () -> plan.setLimits(2, 1001, 40));
        Checks.due(1, () -> plan.setLimits(1, 30, 40));
        Checks.due(1, () -> plan.setLimits(60, 60, 200));
    }

    private static void lowerThanWhatStands() {
        StowagePlan plan = Checks.stackOf(30, 20);
        plan.addContainer(1, 0, 5, 0);
        Checks.due(120, () -> plan.setLimits(1, 0, 0));
        Checks.due(221, () -> plan.where(1));
        Checks.due(false, () -> plan.canLoad(2, 2, 2));
        Checks.due(true, () -> plan.canLoad(2, 2, 1));
        Checks.due(false, plan::isSteady);
        plan.setLimits(51, 0, 50);
        Checks.due(true, () -> plan.canLoad(2, 2, 2));
        Checks.due(true, plan::isSteady);
    }

    // ---- promise 5: setPlug

    private static StowagePlan reeferOnTier(int tier) {
        StowagePlan plan = new StowagePlan();
        plan.setPlug(5, 4, true);
        for (int below = 0; below < tier; below++) {
            Checks.with(plan, 1, 5, 4);
        }
        int reefer = plan.addContainer(1, 0, 5, 1);
        plan.load(reefer, 5, 4);
        return plan;
    }

    private static void noSuchStack() {
        for (int bay : Checks.NO_BAYS) {
            Checks.refused(Checks.INDEX, ContainersEdgesTest::one, plan -> plan.setPlug(bay, 0, true));
            Checks.refused(Checks.INDEX, ContainersEdgesTest::one, plan -> plan.setPlug(bay, 4, false));
        }
        for (int row : Checks.NO_ROWS) {
            Checks.refused(Checks.INDEX, ContainersEdgesTest::one, plan -> plan.setPlug(0, row, true));
            Checks.refused(Checks.INDEX, ContainersEdgesTest::one, plan -> plan.setPlug(3, row, false));
        }
    }

    private static void whetherItHadOne() {
        for (int stack = 0; stack < 30; stack++) {
            int bay = stack / 5;
            int row = stack % 5;
            StowagePlan plan = new StowagePlan();
            Checks.due(bay == 2 || bay == 3, () -> plan.setPlug(bay, row, false));
            Checks.due(bay == 2 || bay == 3 ? 18 : 20, plan::freePlugs);
            Checks.due(false, () -> plan.setPlug(bay, row, false));
            Checks.due(false, () -> plan.setPlug(bay, row, true));
            Checks.due(true, () -> plan.setPlug(bay, row, true));
            Checks.due(bay == 2 || bay == 3 ? 20 : 22, plan::freePlugs);
        }
    }

    private static void takenFromAReefer() {
        Checks.refused(Checks.STATE, () -> reeferOnTier(0), plan -> plan.setPlug(5, 4, false));
        Checks.refused(Checks.STATE, () -> reeferOnTier(1), plan -> plan.setPlug(5, 4, false));
        Checks.refused(Checks.STATE, () -> Checks.with(reeferOnTier(0), 1, 5, 4), plan -> plan.setPlug(5, 4, false));
        Checks.refused(Checks.STATE, () -> Checks.sailed(reeferOnTier(1), 1), plan -> plan.setPlug(5, 4, false));
    }

    private static void notTakenAway() {
        StowagePlan plan = reeferOnTier(1);
        Checks.due(true, () -> plan.setPlug(5, 4, true));
        Checks.due(true, () -> plan.setPlug(5, 4, true));
        Checks.due(false, () -> plan.setPlug(5, 3, true));
    }

    private static void takenWhereNoReeferIs() {
        StowagePlan plan = reeferOnTier(0);
        Checks.due(false, () -> plan.setPlug(5, 3, false));
        Checks.due(true, () -> plan.setPlug(3, 4, false));
        for (int kind : Checks.numbers(0, 2, 3, 4)) {
            StowagePlan other = Checks.quay(Checks.numbers(1, 0, 5, kind), Checks.numbers(1, 0, 5, 1));
            other.load(0, 3, 3);
            Checks.due(true, () -> other.setPlug(3, 3, false));
        }
    }

    private static void takenWhenTheReeferIsGone() {
        StowagePlan lifted = reeferOnTier(0);
        lifted.lift(5, 4);
        Checks.due(true, () -> lifted.setPlug(5, 4, false));
        Checks.due(false, () -> lifted.canLoad(0, 5, 4));
        StowagePlan landed = Checks.sailed(reeferOnTier(1), 5);
        Checks.due(true, () -> landed.setPlug(5, 4, false));
        Checks.due(false, () -> landed.setPlug(5, 4, false));
    }

    private static void addContainer() {
        Checks.sentence("2: Adds a container; returns its number", ContainersEdgesTest::addsIt);
        Checks.sentence("2: weight is not 1 to 30", ContainersEdgesTest::weightOneToThirty);
        Checks.sentence("2: from is not 0 to 4", ContainersEdgesTest::fromZeroToFour);
        Checks.sentence("2: to is not greater than from", ContainersEdgesTest::toGreaterThanFrom);
        Checks.sentence("2: or greater than 5", ContainersEdgesTest::toAtMostFive);
        Checks.sentence("2: kind is not 0 to 4", ContainersEdgesTest::kindZeroToFour);
        Checks.sentence("2: the ship has left this port", ContainersEdgesTest::portThatIsLeft);
        Checks.sentence("2: there are 40 containers", ContainersEdgesTest::fortyContainers);
    }

    private static void setPlug() {
        Checks.sentence("5: there is no such bay or row", ContainersEdgesTest::noSuchStack);
        Checks.sentence("5: Returns whether it had one before", ContainersEdgesTest::whetherItHadOne);
        Checks.sentence("5: taken away, and there is a REEFER in the stack", ContainersEdgesTest::takenFromAReefer);
        Checks.sentence("5: if it would be taken away", ContainersEdgesTest::notTakenAway);
        Checks.sentence("5: a REEFER in the stack", ContainersEdgesTest::takenWhereNoReeferIs);
        Checks.sentence("5: there is a REEFER", ContainersEdgesTest::takenWhenTheReeferIsGone);
    }

    public static void main(String[] args) {
        Checks.sentence("1: Creates a plan without containers", ContainersEdgesTest::withoutContainers);
        Checks.sentence("1: Creates a plan", ContainersEdgesTest::objectsStandAlone);
        addContainer();
        Checks.sentence("3: there is no such container", ContainersEdgesTest::noSuchContainer);
        Checks.sentence("3: or what is not 0 to 4", ContainersEdgesTest::noSuchQuestion);
        Checks.sentence("3: 0 if it waits, 1 if on board, 2 if landed", ContainersEdgesTest::whetherItWaits);
        Checks.sentence("4: stack is not 1 to 120", ContainersEdgesTest::limitOfAStack);
        Checks.sentence("4: list is not 0 to 1000", ContainersEdgesTest::limitOfLists);
        Checks.sentence("4: trim is not 0 to 1000", ContainersEdgesTest::limitOfTrims);
        Checks.sentence("4: Returns the limit of a stack before", ContainersEdgesTest::theLimitBefore);
        Checks.sentence("4: Sets the limits", ContainersEdgesTest::lowerThanWhatStands);
        setPlug();
        Checks.end();
    }
}
