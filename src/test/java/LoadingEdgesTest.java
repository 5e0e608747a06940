/** The edges that the promises 6 to 11 name (loading and lifting), a test for each sentence. */
public final class LoadingEdgesTest {
    private static StowagePlan one() {
        return Checks.waiting(1, 7, 5);
    }

    private static StowagePlan full() {
        return Checks.waiting(40, 1, 5);
    }

    // ---- promise 6: canLoad

    private static void canLoadNoSuchContainer() {
        for (int number : Checks.numbers(Checks.LEAST, -1, 0, 39, 40, Checks.MOST)) {
            Checks.refused(Checks.INDEX, StowagePlan::new, plan -> plan.canLoad(number, 2, 2));
        }
        for (int number : Checks.numbers(-1, 1, 39, 40)) {
            Checks.refused(Checks.INDEX, LoadingEdgesTest::one, plan -> plan.canLoad(number, 2, 2));
        }
        Checks.due(true, () -> full().canLoad(39, 2, 2));
        Checks.refused(Checks.INDEX, LoadingEdgesTest::full, plan -> plan.canLoad(40, 2, 2));
    }

    private static void canLoadNoSuchBay() {
        Checks.due(true, () -> one().canLoad(0, 0, 2));
        Checks.due(true, () -> one().canLoad(0, 5, 2));
        for (int bay : Checks.NO_BAYS) {
            Checks.refused(Checks.INDEX, LoadingEdgesTest::one, plan -> plan.canLoad(0, bay, 2));
        }
    }

    private static void canLoadNoSuchRow() {
        Checks.due(true, () -> one().canLoad(0, 2, 0));
        Checks.due(true, () -> one().canLoad(0, 2, 4));
        for (int row : Checks.NO_ROWS) {
            Checks.refused(Checks.INDEX, LoadingEdgesTest::one, plan -> plan.canLoad(0, 2, row));
        }
    }

    private static void canLoadAnswersFalse() {
        StowagePlan plan = Checks.quay(Checks.numbers(1, 0, 1, 0), Checks.numbers(1, 1, 5, 0));
        Checks.due(false, () -> plan.canLoad(1, 2, 2));
        plan.load(0, 2, 2);
        Checks.due(false, () -> plan.canLoad(0, 2, 2));
        Checks.due(false, () -> plan.canLoad(0, 3, 3));
        plan.sail();
        Checks.due(false, () -> plan.canLoad(0, 2, 2));
        Checks.due(true, () -> plan.canLoad(1, 2, 2));
    }

    // ---- promise 7: load

    private static void itsTier() {
        StowagePlan plan = full();
        for (int number = 0; number < 40; number++) {
            int n = number;
            Checks.due(n % 4, () -> plan.load(n, n / 20, n / 4 % 5));
            Checks.due(n / 20 * 100 + n / 4 % 5 * 10 + n % 4, () -> plan.where(n));
        }
        Checks.due(40, () -> plan.count(false));
    }

    private static void loadNoSuchContainer() {
        for (int number : Checks.numbers(Checks.LEAST, -1, 1, 39, 40, Checks.MOST)) {
            Checks.refused(Checks.INDEX, LoadingEdgesTest::one, plan -> plan.load(number, 2, 2));
        }
        Checks.refused(Checks.INDEX, StowagePlan::new, plan -> plan.load(0, 2, 2));
        Checks.refused(Checks.INDEX, LoadingEdgesTest::full, plan -> plan.load(40, 2, 2));
        Checks.due(0, () -> full().load(39, 2, 2));
    }

    private static void loadNoSuchBay() {
        for (int bay : Checks.NO_BAYS) {
            Checks.refused(Checks.INDEX, LoadingEdgesTest::one, plan -> plan.load(0, bay, 2));
        }
        Checks.due(0, () -> one().load(0, 0, 2));
        Checks.due(0, () -> one().load(0, 5, 2));
    }

    private static void loadNoSuchRow() {
        for (int row : Checks.NO_ROWS) {
            Checks.refused(Checks.INDEX, LoadingEdgesTest::one, plan -> plan.load(0, 2, row));
        }
        Checks.due(0, () -> one().load(0, 2, 0));
        Checks.due(0, () -> one().load(0, 2, 4));
    }

    private static StowagePlan withLast(StowagePlan plan, int weight, int from, int kind) {
        plan.addContainer(weight, from, 5, kind);
        return plan;
    }

    private static void loadWhereItCannot() {
        // It waits at another port; stands on board; is landed; was left behind.
        Checks.refused(Checks.STATE, () -> withLast(new StowagePlan(), 1, 1, 0), plan -> plan.load(0, 2, 2));
        Checks.refused(Checks.STATE, () -> Checks.stackTo(5), plan -> plan.load(0, 2, 2));
        Checks.refused(Checks.STATE, () -> Checks.stackTo(5), plan -> plan.load(0, 2, 3));
        Checks.refused(Checks.STATE, () -> Checks.sailed(Checks.stackTo(1), 1), plan -> plan.load(0, 2, 2));
        Checks.refused(Checks.STATE, () -> Checks.sailed(one(), 1), plan -> plan.load(0, 2, 2));
        // The stack holds four; is too heavy with it; has no power there.
        Checks.refused(Checks.STATE, () -> withLast(Checks.stackTo(5, 5, 5, 5), 1, 0, 0), plan -> plan.load(4, 2, 2));
        Checks.refused(Checks.STATE, () -> withLast(Checks.stackOf(30, 30, 30, 1), 1, 0, 0), plan -> plan.load(4, 2, 2));
        Checks.refused(Checks.STATE, () -> {
            StowagePlan plan = withLast(Checks.stackOf(30, 30), 1, 0, 0);
            plan.setLimits(60, 60, 200);
            return plan;
        }, plan -> plan.load(2, 2, 2));
        Checks.refused(Checks.STATE, () -> withLast(new StowagePlan(), 1, 0, 1), plan -> plan.load(0, 1, 2));
        Checks.refused(Checks.STATE, () -> withLast(Checks.stackTo(5, 5), 1, 0, 1), plan -> plan.load(2, 2, 2));
    }

    private static StowagePlan withDangerous() {
        StowagePlan plan = Checks.quay(Checks.numbers(1, 0, 5, 2), Checks.numbers(1, 0, 5, 4));
        plan.load(0, 2, 2);
        return plan;
    }

    private static void loadNearAnotherClass() {
        Checks.refused(Checks.STATE, LoadingEdgesTest::withDangerous, plan -> plan.load(1, 2, 2));
        Checks.refused(Checks.STATE, LoadingEdgesTest::withDangerous, plan -> plan.load(1, 2, 0));
        Checks.refused(Checks.STATE, LoadingEdgesTest::withDangerous, plan -> plan.load(1, 1, 1));
        Checks.refused(Checks.STATE, LoadingEdgesTest::withDangerous, plan -> plan.load(1, 3, 3));
        Checks.due(0, () -> withDangerous().load(1, 1, 0));
        Checks.due(0, () -> withDangerous().load(1, 4, 2));
    }

    // ---- promise 8: lift

    private static void liftNoSuchStack() {
        for (int bay : Checks.NO_BAYS) {
            Checks.refused(Checks.INDEX, () -> Checks.stackTo(5), plan -> plan.lift(bay, 2));
        }
        for (int row : Checks.NO_ROWS) {
            Checks.refused(Checks.INDEX, () -> Checks.stackTo(5), plan -> plan.lift(2, row));
        }
        for (int stack = 0; stack < 30; stack++) {
            int s = stack;
            Checks.due(0, () -> Checks.with(new StowagePlan(), 1, s / 5, s % 5).lift(s / 5, s % 5));
        }
    }

    private static void liftFromAnEmptyStack() {
        Checks.refused(Checks.STATE, StowagePlan::new, plan -> plan.lift(2, 2));
        Checks.refused(Checks.STATE, () -> Checks.stackTo(5, 5), plan -> plan.lift(2, 1));
        Checks.refused(Checks.STATE, () -> Checks.sailed(Checks.stackTo(1, 1), 1), plan -> plan.lift(2, 2));
        Checks.refused(Checks.STATE, () -> {
            StowagePlan plan = Checks.stackTo(5);
            plan.lift(2, 2);
            return plan;
        }, plan -> plan.lift(2, 2));
    }

    private static void liftsTheUppermost() {
        StowagePlan plan = Checks.stackTo(5, 4, 3, 2);
        for (int tier = 3; tier >= 0; tier--) {
            int t = tier;
            Checks.due(t, () -> plan.lift(2, 2));
            Checks.due(-1, () -> plan.at(2, 2, t));
            Checks.due(t, () -> plan.count(false));
        }
        Checks.due(Checks.STATE, () -> plan.lift(2, 2));
    }

    private static void liftAnotherPortsContainer() {
        Checks.refused(Checks.STATE, () -> Checks.sailed(Checks.stackTo(5, 1), 1), plan -> plan.lift(2, 2));
        StowagePlan plan = Checks.sailed(Checks.stackTo(5), 1);
        Checks.with(plan, 1, 2, 2);
        Checks.due(1, () -> plan.lift(2, 2));
        Checks.due(Checks.STATE, () -> plan.lift(2, 2));
        Checks.due(220, () -> plan.where(0));
        // Loaded at port 1 and still there at port 2, as one of the ports before.
        Checks.with(plan, 1, 2, 2);
        plan.sail();
        Checks.due(Checks.STATE, () -> plan.lift(2, 2));
    }

    private static void itWaitsAgain() {
        StowagePlan plan = Checks.stackTo(5, 5);
        plan.lift(2, 2);
        Checks.due(0, () -> plan.container(1, 4));
        Checks.due(-1, () -> plan.where(1));
        Checks.due(1, () -> plan.count(true));
        Checks.due(1, () -> plan.count(false));
        Checks.due(30, () -> plan.choices(1));
        Checks.due(0, () -> plan.load(1, 5, 4));
        plan.lift(5, 4);
        Checks.due(1, () -> plan.load(1, 2, 2));
        Checks.due(0, plan::lifted);
        plan.lift(2, 2);
        plan.sail();
        Checks.due(false, () -> plan.canLoad(1, 2, 2));
    }

    // ---- promise 10: sail

    private static void sailAtPortFive() {
        Checks.due(0, () -> Checks.sailed(new StowagePlan(), 4).sail());
        Checks.refused(Checks.STATE, () -> Checks.sailed(new StowagePlan(), 5), StowagePlan::sail);
        Checks.refused(Checks.STATE, () -> Checks.sailed(Checks.stackTo(5, 5), 5), StowagePlan::sail);
    }

    private static StowagePlan limited(StowagePlan plan, int list, int trim) {
        plan.setLimits(60, list, trim);
        return plan;
    }

    private static void sailUnsteady() {
        // List 2 * 30 and trim -30; list -60 and trim -30.
        Checks.due(0, () -> limited(Checks.with(one(), 30, 2, 4), 60, 30).sail());
        Checks.refused(Checks.STATE, () -> limited(Checks.with(one(), 30, 2, 4), 59, 30), StowagePlan::sail);
        Checks.refused(Checks.STATE, () -> limited(Checks.with(one(), 30, 2, 4), 60, 29), StowagePlan::sail);
        Checks.due(0, () -> limited(Checks.with(one(), 30, 3, 0), 60, 30).sail());
        Checks.refused(Checks.STATE, () -> limited(Checks.with(one(), 30, 3, 0), 59, 30), StowagePlan::sail);
        Checks.refused(Checks.STATE, () -> limited(Checks.with(one(), 30, 3, 0), 60, 29), StowagePlan::sail);
        Checks.due(0, () -> Checks.stackOf(1, 1, 1, 3).sail());
        Checks.refused(Checks.STATE, () -> Checks.stackOf(1, 1, 1, 4), StowagePlan::sail);
        Checks.due(0, () -> limited(one(), 0, 0).sail());
    }

    private static void sailOneMorePort() {
        StowagePlan plan = Checks.stackTo(5, 4, 3, 2);
        for (int port = 1; port < 6; port++) {
            int p = port;
            Checks.due(0, plan::sail);
            Checks.due(p, plan::port);
            Checks.due(5 - p, () -> plan.count(false));
        }
    }

    private static void fromTheLowestOn() {
        int[][] stacks = {{1, 5, 5, 5}, {5, 1, 5, 5}, {5, 5, 1, 5}, {5, 5, 5, 1}, {5, 5, 5, 5}, {1, 1, 1, 1}};
        int[] due = {3, 2, 1, 0, 0, 0};
        for (int i = 0; i < stacks.length; i++) {
            int n = i;
            Checks.due(due[n], () -> Checks.stackTo(stacks[n]).sail());
        }
        Checks.due(2, () -> Checks.stackTo(1, 5, 1, 5).sail());
        Checks.due(1, () -> Checks.stackTo(5, 1, 5, 1).sail());
        Checks.due(2, () -> Checks.stackTo(1, 5, 5, 1).sail());
        Checks.due(1, () -> Checks.stackTo(1, 1, 1, 5).sail());
    }

    private static void putBackInTheSameOrder() {
        StowagePlan plan = Checks.stackTo(1, 4, 2, 3);
        plan.sail();
        for (int tier = 0; tier < 3; tier++) {
            int t = tier;
            Checks.due(t + 1, () -> plan.at(2, 2, t));
            Checks.due(220 + t, () -> plan.where(t + 1));
        }
        Checks.due(-1, () -> plan.at(2, 2, 3));
        StowagePlan two = Checks.stackTo(5, 1, 4, 1);
        two.sail();
        Checks.due(0, () -> two.at(2, 2, 0));
        Checks.due(2, () -> two.at(2, 2, 1));
        Checks.due(-1, () -> two.at(2, 2, 2));
        Checks.with(two, 1, 2, 2);
        Checks.due(222, () -> two.where(4));
    }

    private static void onlyThisPortsLand() {
        StowagePlan plan = Checks.stackTo(2, 1, 3);
        plan.sail();
        Checks.due(1, () -> plan.container(0, 4));
        Checks.due(2, () -> plan.container(1, 4));
        Checks.due(1, () -> plan.container(2, 4));
        Checks.due(-1, () -> plan.where(1));
        plan.sail();
        Checks.due(2, () -> plan.container(0, 4));
        Checks.due(220, () -> plan.where(2));
        // One for port 1 that was left on the quay of port 0 is not landed.
        StowagePlan left = Checks.sailed(Checks.waiting(1, 1, 1), 1);
        Checks.due(0, () -> left.container(0, 4));
    }

    private static void inEachStack() {
        StowagePlan plan = new StowagePlan();
        for (int number = 0; number < 20; number++) {
            plan.addContainer(1, 0, 1, 0);
            plan.addContainer(1, 0, 5, 0);
        }
        plan.setLimits(60, 1000, 1000);
        for (int number = 0; number < 40; number += 2) {
            plan.load(number, number / 10, number / 2 % 5);
            plan.load(number + 1, number / 10, number / 2 % 5);
        }
        Checks.due(20, plan::sail);
        Checks.due(20, () -> plan.count(false));
        Checks.due(340, () -> plan.where(39));
        Checks.due(0, () -> plan.where(1));
        Checks.due(0, plan::sail);
    }

    // ---- promise 11: port

    private static void portZeroToFive() {
        for (int port = 0; port < 6; port++) {
            int p = port;
            Checks.due(p, () -> Checks.sailed(new StowagePlan(), p).port());
        }
        StowagePlan unsteady = Checks.stackOf(1, 1, 1, 4);
        Checks.due(Checks.STATE, unsteady::sail);
        Checks.due(0, unsteady::port);
    }

    private static void canLoadAndLoad() {
        Checks.sentence("6: no such container", LoadingEdgesTest::canLoadNoSuchContainer);
        Checks.sentence("6: no such bay", LoadingEdgesTest::canLoadNoSuchBay);
        Checks.sentence("6: no such row", LoadingEdgesTest::canLoadNoSuchRow);
        Checks.sentence("6: Returns whether it can be loaded", LoadingEdgesTest::canLoadAnswersFalse);
        Checks.sentence("7: Returns its tier", LoadingEdgesTest::itsTier);
        Checks.sentence("7: no such container", LoadingEdgesTest::loadNoSuchContainer);
        Checks.sentence("7: no such bay", LoadingEdgesTest::loadNoSuchBay);
        Checks.sentence("7: no such row", LoadingEdgesTest::loadNoSuchRow);
        Checks.sentence("7: it cannot be loaded there", LoadingEdgesTest::loadWhereItCannot);
        Checks.sentence("7: it cannot be loaded there (apart)", LoadingEdgesTest::loadNearAnotherClass);
    }

    private static void lift() {
        Checks.sentence("8: no such bay or row", LoadingEdgesTest::liftNoSuchStack);
        Checks.sentence("8: the stack is empty", LoadingEdgesTest::liftFromAnEmptyStack);
        Checks.sentence("8: Lifts the uppermost container", LoadingEdgesTest::liftsTheUppermost);
        Checks.sentence("8: its uppermost one waited at another port", LoadingEdgesTest::liftAnotherPortsContainer);
        Checks.sentence("8: it waits again", LoadingEdgesTest::itWaitsAgain);
    }

    private static void sail() {
        Checks.sentence("10: the ship is at port 5", LoadingEdgesTest::sailAtPortFive);
        Checks.sentence("10: or is not steady", LoadingEdgesTest::sailUnsteady);
        Checks.sentence("10: Sails to the next port", LoadingEdgesTest::sailOneMorePort);
        Checks.sentence("10: from the lowest one on are lifted", LoadingEdgesTest::fromTheLowestOn);
        Checks.sentence("10: put back in the same order", LoadingEdgesTest::putBackInTheSameOrder);
        Checks.sentence("10: those that are to be landed there are landed", LoadingEdgesTest::onlyThisPortsLand);
        Checks.sentence("10: in each stack", LoadingEdgesTest::inEachStack);
    }

    public static void main(String[] args) {
        canLoadAndLoad();
        lift();
        sail();
        Checks.sentence("11: Returns the port where the ship is", LoadingEdgesTest::portZeroToFive);
        Checks.end();
    }
}
