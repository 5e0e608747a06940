/** The edges that the promises 12 to 24 name (what is told), a test for each sentence. */
public final class ToldEdgesTest {
    private static StowagePlan one() {
        return Checks.waiting(1, 7, 5);
    }

    private static StowagePlan full() {
        return Checks.waiting(40, 1, 5);
    }

    /** A new ship with the greatest limits. */
    private static StowagePlan wide() {
        StowagePlan plan = new StowagePlan();
        plan.setLimits(120, 1000, 1000);
        return plan;
    }

    /** Ten stacks in the bays 2 and 3, each with DRY containers of weight 1 to these ports, from below. */
    private static StowagePlan tenStacksTo(int... ports) {
        StowagePlan plan = wide();
        for (int stack = 0; stack < 10; stack++) {
            for (int port : ports) {
                plan.load(plan.addContainer(1, plan.port(), port, 0), 2 + stack / 5, stack % 5);
            }
        }
        return plan;
    }

    // ---- promise 12: at

    private static void atNoSuchPlace() {
        for (int bay : Checks.NO_BAYS) {
            Checks.refused(Checks.INDEX, ToldEdgesTest::one, plan -> plan.at(bay, 0, 0));
        }
        for (int row : Checks.NO_ROWS) {
            Checks.refused(Checks.INDEX, ToldEdgesTest::one, plan -> plan.at(0, row, 0));
            Checks.refused(Checks.INDEX, ToldEdgesTest::one, plan -> plan.at(3, row, 0));
        }
        for (int tier : Checks.numbers(Checks.LEAST, -1, 4, 5, Checks.MOST)) {
            Checks.refused(Checks.INDEX, ToldEdgesTest::one, plan -> plan.at(0, 0, tier));
            Checks.refused(Checks.INDEX, () -> Checks.stackTo(5, 5, 5, 5), plan -> plan.at(2, 2, tier));
        }
    }

    private static void atEachPlace() {
        for (int stack = 0; stack < 30; stack++) {
            int bay = stack / 5;
            int row = stack % 5;
            StowagePlan plan = Checks.waiting(5, 1, 5);
            for (int tier = 0; tier < 4; tier++) {
                int t = tier;
                plan.load(4 - tier, bay, row);
                Checks.due(4 - tier, () -> plan.at(bay, row, t));
            }
        }
    }

    private static void atAFreePlace() {
        Checks.due(-1, () -> new StowagePlan().at(0, 0, 0));
        Checks.due(-1, () -> new StowagePlan().at(5, 4, 3));
        for (int height = 0; height < 4; height++) {
            int h = height;
            Checks.due(-1, () -> {
                StowagePlan plan = new StowagePlan();
                for (int tier = 0; tier < h; tier++) {
                    Checks.with(plan, 1, 2, 2);
                }
                return plan.at(2, 2, h);
            });
        }
        StowagePlan landed = Checks.sailed(Checks.stackTo(5, 1, 1, 1), 1);
        Checks.due(0, () -> landed.at(2, 2, 0));
        Checks.due(-1, () -> landed.at(2, 2, 1));
        Checks.due(-1, () -> landed.at(2, 2, 3));
    }

    // ---- promise 13: where

    private static void whereNoSuchContainer() {
        for (int number : Checks.numbers(Checks.LEAST, -1, 0, 39, 40, Checks.MOST)) {
            Checks.refused(Checks.INDEX, StowagePlan::new, plan -> plan.where(number));
        }
        for (int number : Checks.numbers(-1, 1, 39, 40)) {
            Checks.refused(Checks.INDEX, ToldEdgesTest::one, plan -> plan.where(number));
        }
        Checks.due(-1, () -> full().where(39));
        Checks.refused(Checks.INDEX, ToldEdgesTest::full, plan -> plan.where(40));
    }

    private static void whereFromLeastToGreatest() {
        StowagePlan plan = Checks.waiting(5, 1, 5);
        Checks.due(0, () -> plan.load(0, 0, 0));
        Checks.due(0, () -> plan.where(0));
        for (int tier = 0; tier < 4; tier++) {
            int t = tier;
            Checks.due(t, () -> plan.load(1 + t, 5, 4));
            Checks.due(540 + t, () -> plan.where(1 + t));
        }
    }

    private static void whereNotOnBoard() {
        StowagePlan plan = Checks.waiting(2, 1, 1);
        Checks.due(-1, () -> plan.where(0));
        plan.load(0, 0, 0);
        Checks.due(0, () -> plan.where(0));
        plan.lift(0, 0);
        Checks.due(-1, () -> plan.where(0));
        plan.load(0, 0, 0);
        plan.sail();
        Checks.due(-1, () -> plan.where(0));
        Checks.due(-1, () -> plan.where(1));
    }

    // ---- promise 14: moment

    private static void momentOfNothing() {
        StowagePlan plan = one();
        Checks.due(0, () -> plan.moment(false));
        Checks.due(0, () -> plan.moment(true));
        plan.load(0, 5, 4);
        Checks.due(14, () -> plan.moment(false));
        Checks.due(35, () -> plan.moment(true));
        plan.lift(5, 4);
        Checks.due(0, () -> plan.moment(false));
        Checks.due(0, () -> plan.moment(true));
    }

    private static void momentOfTheGreatest() {
        for (int side = 0; side < 2; side++) {
            int sign = side == 0 ? 1 : -1;
            StowagePlan list = wide();
            StowagePlan trim = wide();
            for (int number = 0; number < 40; number++) {
                int stack = number / 4;
                Checks.with(list, 30, stack % 6, 2 + sign * (stack < 6 ? 2 : 1));
                int bay = stack < 5 ? 5 : 4;
                Checks.with(trim, 30, side == 0 ? bay : 5 - bay, stack % 5);
            }
            Checks.due(sign * 30 * (24 * 2 + 16), () -> list.moment(false));
            Checks.due(sign * 30 * (20 * 5 + 20 * 3), () -> trim.moment(true));
            Checks.due(0, () -> trim.moment(false));
        }
    }

    // ---- promise 15: height

    private static void heightOfNothing() {
        StowagePlan plan = one();
        Checks.due(0.0, () -> new StowagePlan().height());
        Checks.due(0.0, plan::height);
        plan.load(0, 2, 2);
        Checks.due(1.0, plan::height);
        plan.lift(2, 2);
        Checks.due(0.0, plan::height);
        Checks.due(0.0, () -> Checks.sailed(Checks.stackTo(1, 1), 1).height());
    }

    private static void heightOfTheGreatest() {
        Checks.due(219.0 / 33.0, () -> Checks.stackOf(1, 1, 1, 30).height());
        Checks.due(45.0 / 33.0, () -> Checks.stackOf(30, 1, 1, 1).height());
        Checks.due(4.0, () -> tenStacksTo(5, 5, 5, 5).height());
        Checks.due(5.0 / 3.0, () -> Checks.stackOf(2, 1).height());
    }

    // ---- promise 16: isSteady

    /** A ship whose list is 1000 without its sign, whose trim is 0, and that is low enough. */
    private static StowagePlan leaning(int row) {
        StowagePlan plan = wide();
        for (int bay = 0; bay < 6; bay++) {
            boolean isMiddle = bay == 2 || bay == 3;
            for (int weight : isMiddle ? Checks.numbers(30, 30, 15, 15) : Checks.numbers(20, 20, 20, 20)) {
                Checks.with(plan, weight, bay, row);
            }
        }
        return plan;
    }

    /** A ship whose trim is 1000 without its sign, whose list is 0, and that is low enough. */
    private static StowagePlan nodding(int bay) {
        StowagePlan plan = wide();
        for (int row = 1; row < 4; row++) {
            for (int weight : row == 2 ? Checks.numbers(30, 30, 30, 30) : Checks.numbers(20, 20)) {
                Checks.with(plan, weight, bay, row);
            }
        }
        return plan;
    }

    private static void steadyAtTheGreatestLimits() {
        for (int side = -1; side <= 1; side += 2) {
            int sign = side;
            StowagePlan list = leaning(2 + 2 * sign);
            Checks.due(1000 * sign, () -> list.moment(false));
            Checks.due(true, list::isSteady);
            Checks.with(list, 1, 2, 2 + sign);
            Checks.due(1001 * sign, () -> list.moment(false));
            Checks.due(false, list::isSteady);
            StowagePlan trim = nodding(sign > 0 ? 5 : 0);
            Checks.due(1000 * sign, () -> trim.moment(true));
            Checks.due(true, trim::isSteady);
            Checks.with(trim, 1, sign > 0 ? 3 : 2, 2);
            Checks.due(1001 * sign, () -> trim.moment(true));
            Checks.due(false, trim::isSteady);
        }
    }

    private static void steadyAtTheLeastLimits() {
        StowagePlan plan = new StowagePlan();
        plan.setLimits(60, 0, 0);
        Checks.due(true, plan::isSteady);
        Checks.with(plan, 1, 2, 2);
        Checks.due(false, plan::isSteady);
        Checks.with(plan, 1, 3, 2);
        Checks.due(true, plan::isSteady);
        Checks.with(plan, 1, 2, 1);
        Checks.with(plan, 1, 3, 2);
        Checks.due(false, plan::isSteady);
        Checks.with(plan, 1, 3, 3);
        Checks.with(plan, 1, 2, 2);
        Checks.due(true, plan::isSteady);
    }

    private static void steadyByAllThree() {
        StowagePlan high = Checks.stackOf(1, 1, 1, 4);
        Checks.due(true, () -> Math.abs(high.moment(true)) <= 200 && high.moment(false) == 0);
        Checks.due(false, high::isSteady);
        Checks.with(high, 1, 3, 2);
        Checks.due(38.0 / 8.0, high::height);
        Checks.due(true, high::isSteady);
    }

    // ---- promise 17: count

    private static void countFromNoneToAll() {
        Checks.due(0, () -> new StowagePlan().count(true));
        Checks.due(0, () -> new StowagePlan().count(false));
        StowagePlan plan = full();
        for (int number = 0; number < 40; number++) {
            int n = number;
            Checks.due(40 - n, () -> plan.count(true));
            Checks.due(n, () -> plan.count(false));
            plan.load(n, n / 8, n % 5);
        }
        Checks.due(0, () -> plan.count(true));
        Checks.due(40, () -> plan.count(false));
    }

    private static void countAtThePortOfTheShip() {
        StowagePlan plan = new StowagePlan();
        for (int from = 0; from < 5; from++) {
            for (int i = 0; i <= from; i++) {
                plan.addContainer(1, from, 5, 0);
            }
        }
        for (int port = 0; port < 6; port++) {
            int p = port;
            Checks.due(p < 5 ? p + 1 : 0, () -> plan.count(true));
            Checks.due(0, () -> plan.count(false));
            if (port < 5) {
                plan.sail();
            }
        }
    }

    private static void countOfLandedOnes() {
        StowagePlan plan = Checks.sailed(Checks.stackTo(1, 2), 1);
        Checks.due(1, () -> plan.count(false));
        Checks.due(0, () -> plan.count(true));
    }

    // ---- promise 18: weight

    private static void weightOfNoSuchBay() {
        for (int bay : Checks.NO_BAYS) {
            Checks.refused(Checks.INDEX, ToldEdgesTest::one, plan -> plan.weight(bay));
        }
    }

    private static void weightFromNoneToTheGreatest() {
        for (int bay = 0; bay < 6; bay++) {
            int b = bay;
            StowagePlan plan = wide();
            Checks.due(0, () -> plan.weight(b));
            for (int number = 0; number < 20; number++) {
                int n = number;
                Checks.due(30 * n, () -> plan.weight(b));
                Checks.with(plan, 30, b, n / 4);
            }
            Checks.due(600, () -> plan.weight(b));
            for (int other = 0; other < 6; other++) {
                int o = other;
                Checks.due(o == b ? 600 : 0, () -> plan.weight(o));
            }
        }
    }

    private static void weightOnItsStacksAlone() {
        StowagePlan plan = Checks.quay(Checks.numbers(5, 0, 1, 0), Checks.numbers(7, 0, 2, 0),
                Checks.numbers(11, 0, 2, 0));
        plan.load(0, 4, 0);
        plan.load(1, 4, 0);
        Checks.due(12, () -> plan.weight(4));
        plan.sail();
        Checks.due(7, () -> plan.weight(4));
        plan.sail();
        Checks.due(0, () -> plan.weight(4));
    }

    // ---- promise 19: blocked

    private static void blockedFromNoneToTheGreatest() {
        Checks.due(0, () -> new StowagePlan().blocked());
        Checks.due(0, () -> full().blocked());
        Checks.due(0, () -> Checks.stackTo(1).blocked());
        Checks.due(0, () -> tenStacksTo(5, 4, 3, 2).blocked());
        Checks.due(30, () -> tenStacksTo(1, 2, 3, 4).blocked());
        Checks.due(30, () -> tenStacksTo(1, 1, 1, 2).blocked());
        Checks.due(10, () -> tenStacksTo(1, 2, 2, 2).blocked());
    }

    private static void blockedByOneFurtherUp() {
        Checks.due(3, () -> Checks.stackTo(3, 1, 1, 4).blocked());
        Checks.due(2, () -> Checks.stackTo(3, 3, 4, 1).blocked());
        Checks.due(1, () -> Checks.stackTo(4, 1, 2).blocked());
        StowagePlan plan = Checks.stackTo(2, 1, 3);
        Checks.due(2, plan::blocked);
        plan.sail();
        Checks.due(1, plan::blocked);
        plan.sail();
        Checks.due(0, plan::blocked);
    }

    // ---- promise 20: lifts

    private static void liftsAtNoSuchPort() {
        for (int port : Checks.numbers(Checks.LEAST, -1, 6, 7, Checks.MOST)) {
            Checks.refused(Checks.INDEX, ToldEdgesTest::one, plan -> plan.lifts(port));
        }
        for (int port = 0; port < 6; port++) {
            int p = port;
            Checks.due(0, () -> new StowagePlan().lifts(p));
        }
    }

    private static void liftsFromTheLowestOn() {
        for (int port = 1; port < 5; port++) {
            int p = port;
            Checks.due(3, () -> Checks.stackTo(p, 5, 5, 5).lifts(p));
            Checks.due(2, () -> Checks.stackTo(p, 5, p, 5).lifts(p));
            Checks.due(1, () -> Checks.stackTo(5, 5, p, 5).lifts(p));
            Checks.due(0, () -> Checks.stackTo(5, 5, 5, p).lifts(p));
            Checks.due(0, () -> Checks.stackTo(p, p, p, p).lifts(p));
            Checks.due(0, () -> Checks.stackTo(5, 5, 5, 5).lifts(p));
        }
        Checks.due(3, () -> Checks.stackTo(5, 4, 4, 1).lifts(5));
        Checks.due(30, () -> tenStacksTo(3, 5, 4, 5).lifts(3));
        Checks.due(30, () -> tenStacksTo(5, 1, 1, 1).lifts(5));
    }

    private static void liftsInTheirPlacesNow() {
        // At port 3 those for port 1 and 2 would be landed before; here they still stand above.
        StowagePlan plan = Checks.stackTo(3, 1, 2, 4);
        Checks.due(3, () -> plan.lifts(3));
        Checks.due(2, () -> plan.lifts(1));
        plan.sail();
        Checks.due(2, () -> plan.lifts(3));
        Checks.due(0, () -> plan.lifts(1));
        Checks.due(1, plan::sail);
        Checks.due(1, () -> plan.lifts(3));
        Checks.due(1, plan::sail);
        Checks.due(0, () -> plan.lifts(3));
        Checks.due(0, () -> plan.lifts(0));
        Checks.due(4, plan::lifted);
    }

    // ---- promise 21: freePlugs

    private static void freePlugsFromNoneToAll() {
        StowagePlan plan = new StowagePlan();
        Checks.due(20, plan::freePlugs);
        for (int stack = 0; stack < 30; stack++) {
            plan.setPlug(stack / 5, stack % 5, true);
        }
        Checks.due(60, plan::freePlugs);
        for (int stack = 0; stack < 30; stack++) {
            int s = stack;
            plan.setPlug(stack / 5, stack % 5, false);
            Checks.due(58 - 2 * s, plan::freePlugs);
        }
        Checks.due(0, plan::freePlugs);
    }

    private static void freePlugsOfTwoTiers() {
        int[] free = {20, 19, 18, 18, 18};
        for (int height = 0; height < 5; height++) {
            int h = height;
            StowagePlan plan = new StowagePlan();
            for (int tier = 0; tier < height; tier++) {
                Checks.with(plan, 1, 3, 4);
            }
            Checks.due(free[h], plan::freePlugs);
            plan.setPlug(3, 4, false);
            Checks.due(18, plan::freePlugs);
        }
        StowagePlan reefer = Checks.quay(Checks.numbers(1, 0, 1, 1));
        reefer.load(0, 2, 0);
        Checks.due(19, reefer::freePlugs);
        reefer.sail();
        Checks.due(20, reefer::freePlugs);
    }

    private static void freePlugsOfStacksWithAPlug() {
        StowagePlan plan = Checks.with(Checks.with(new StowagePlan(), 1, 0, 0), 1, 1, 4);
        Checks.due(20, plan::freePlugs);
        plan.setPlug(0, 0, true);
        Checks.due(21, plan::freePlugs);
    }

    // ---- promise 22: choices

    private static void choicesOfNoSuchContainer() {
        for (int number : Checks.numbers(Checks.LEAST, -1, 0, 39, 40, Checks.MOST)) {
            Checks.refused(Checks.INDEX, StowagePlan::new, plan -> plan.choices(number));
        }
        for (int number : Checks.numbers(-1, 1, 39, 40)) {
            Checks.refused(Checks.INDEX, ToldEdgesTest::one, plan -> plan.choices(number));
        }
        Checks.due(30, () -> full().choices(39));
        Checks.refused(Checks.INDEX, ToldEdgesTest::full, plan -> plan.choices(40));
    }

    private static void choicesFromNoneToAll() {
        StowagePlan plan = full();
        plan.setLimits(1, 60, 200);
        for (int number = 0; number < 30; number++) {
            int n = number;
            Checks.due(30 - n, () -> plan.choices(39));
            plan.load(n, n / 5, n % 5);
            Checks.due(0, () -> plan.choices(n));
        }
        Checks.due(0, () -> plan.choices(39));
        plan.setLimits(2, 60, 200);
        Checks.due(30, () -> plan.choices(39));
        plan.sail();
        Checks.due(0, () -> plan.choices(39));
        Checks.due(0, () -> plan.choices(0));
    }

    private static void choicesOfReefers() {
        StowagePlan plan = Checks.quay(Checks.numbers(1, 0, 5, 1));
        Checks.due(10, () -> plan.choices(0));
        plan.setPlug(0, 0, true);
        Checks.due(11, () -> plan.choices(0));
        Checks.with(Checks.with(plan, 1, 0, 0), 1, 0, 0);
        Checks.due(10, () -> plan.choices(0));
        for (int stack = 0; stack < 30; stack++) {
            plan.setPlug(stack / 5, stack % 5, false);
        }
        Checks.due(0, () -> plan.choices(0));
    }

    // ---- promise 23: lifted

    private static void liftedFromNoneOn() {
        StowagePlan plan = new StowagePlan();
        Checks.due(0, plan::lifted);
        Checks.sailed(plan, 5);
        Checks.due(0, plan::lifted);
        Checks.due(0, () -> Checks.sailed(tenStacksTo(5, 4, 3, 2), 5).lifted());
        Checks.due(30, () -> Checks.sailed(tenStacksTo(1, 5, 5, 5), 1).lifted());
    }

    private static void liftedSoFar() {
        StowagePlan plan = tenStacksTo(1, 2, 3, 4);
        int[] due = {30, 50, 60, 60, 60};
        for (int port = 1; port < 6; port++) {
            int p = port;
            plan.sail();
            Checks.due(due[p - 1], plan::lifted);
        }
        Checks.due(Checks.STATE, plan::sail);
        Checks.due(60, plan::lifted);
    }

    private static void liftedWhenTheShipCame() {
        StowagePlan plan = Checks.stackTo(5, 5);
        plan.lift(2, 2);
        plan.lift(2, 2);
        Checks.due(0, plan::lifted);
        plan.plan();
        plan.sail();
        Checks.due(0, plan::lifted);
    }

    // ---- promise 24: digest

    /** The numbers that the document tells, from the calls that tell them; the limits and plugs are given. */
    private static long dueDigest(StowagePlan plan, int containers, int[] limits, int[] plugs) {
        long[] x = new long[2 + 6 * containers + 3 + 30 + 3];
        int i = 0;
        x[i++] = plan.port();
        x[i++] = containers;
        for (int number = 0; number < containers; number++) {
            for (int what = 0; what < 5; what++) {
                x[i++] = plan.container(number, what);
            }
            x[i++] = plan.where(number);
        }
        for (int limit : limits) {
            x[i++] = limit;
        }
        for (int plug : plugs) {
            x[i++] = plug;
        }
        x[i++] = plan.moment(false);
        x[i++] = plan.moment(true);
        x[i] = plan.lifted();
        return Checks.checksum(x);
    }

    private static final int[] FIRST_PLUGS = {
        0, 0, 0, 0, 0, 0, 0, 0, 0, 0, 1, 1, 1, 1, 1, 1, 1, 1, 1, 1, 0, 0, 0, 0, 0, 0, 0, 0, 0, 0,
    };

    private static void digestOfNothing() {
        StowagePlan plan = new StowagePlan();
        Checks.due(dueDigest(plan, 0, Checks.numbers(60, 60, 200), FIRST_PLUGS), plan::digest);
        Checks.sailed(plan, 5);
        Checks.due(dueDigest(plan, 0, Checks.numbers(60, 60, 200), FIRST_PLUGS), plan::digest);
        Checks.due(5, plan::port);
    }

    private static StowagePlan fortyOfAllKinds() {
        StowagePlan plan = wide();
        for (int number = 0; number < 40; number++) {
            plan.addContainer(30 - number % 30, number % 3, 3 + number % 3, number % 5);
        }
        return plan;
    }

    private static void digestOfForty() {
        StowagePlan waiting = fortyOfAllKinds();
        Checks.due(dueDigest(waiting, 40, Checks.numbers(120, 1000, 1000), FIRST_PLUGS), waiting::digest);
        StowagePlan loaded = fortyOfAllKinds();
        loaded.plan();
        loaded.setLimits(119, 999, 998);
        Checks.due(dueDigest(loaded, 40, Checks.numbers(119, 999, 998), FIRST_PLUGS), loaded::digest);
    }

    private static void digestOfEachPlug() {
        for (int stack = 0; stack < 30; stack++) {
            int[] plugs = FIRST_PLUGS.clone();
            plugs[stack] = 1 - plugs[stack];
            StowagePlan plan = new StowagePlan();
            plan.setPlug(stack / 5, stack % 5, plugs[stack] == 1);
            Checks.due(dueDigest(plan, 0, Checks.numbers(60, 60, 200), plugs), plan::digest);
        }
    }

    private static void digestWrapsAround() {
        // Of 197 bits and of 227 the last 64 are left, once with the sign and once without.
        Checks.due(6577678290291787763L, () -> new StowagePlan().digest());
        Checks.due(-1585269521357138162L, () -> Checks.sailed(new StowagePlan(), 5).digest());
        Checks.due(-8293520526520959574L, () -> Checks.with(new StowagePlan(), 30, 0, 0).digest());
        StowagePlan plan = Checks.with(Checks.with(new StowagePlan(), 30, 0, 0), 29, 0, 1);
        Checks.due(-89, () -> plan.moment(false));
        Checks.due(-295, () -> plan.moment(true));
        Checks.due(dueDigest(plan, 2, Checks.numbers(60, 60, 200), FIRST_PLUGS), plan::digest);
        plan.lift(0, 1);
        Checks.due(dueDigest(plan, 2, Checks.numbers(60, 60, 200), FIRST_PLUGS), plan::digest);
    }

    private static void digestOfEachState() {
        StowagePlan plan = Checks.stackTo(1, 4, 2);
        for (int port = 0; port < 6; port++) {
            Checks.due(dueDigest(plan, 3, Checks.numbers(60, 60, 200), FIRST_PLUGS), plan::digest);
            if (port < 5) {
                plan.sail();
            }
        }
    }

    private static void places() {
        Checks.sentence("12: no such bay, row or tier", ToldEdgesTest::atNoSuchPlace);
        Checks.sentence("12: Returns the container there", ToldEdgesTest::atEachPlace);
        Checks.sentence("12: -1 if there is none", ToldEdgesTest::atAFreePlace);
        Checks.sentence("13: no such container", ToldEdgesTest::whereNoSuchContainer);
        Checks.sentence("13: 100 times its bay, 10 times its row, its tier", ToldEdgesTest::whereFromLeastToGreatest);
        Checks.sentence("13: -1 if it is not on board", ToldEdgesTest::whereNotOnBoard);
    }

    private static void balance() {
        Checks.sentence("14: list and trim of nothing", ToldEdgesTest::momentOfNothing);
        Checks.sentence("14: list and trim at their greatest", ToldEdgesTest::momentOfTheGreatest);
        Checks.sentence("15: 0 if there are no containers on board", ToldEdgesTest::heightOfNothing);
        Checks.sentence("15: Returns the height", ToldEdgesTest::heightOfTheGreatest);
        Checks.sentence("16: steady at the greatest limits", ToldEdgesTest::steadyAtTheGreatestLimits);
        Checks.sentence("16: steady at the least limits", ToldEdgesTest::steadyAtTheLeastLimits);
        Checks.sentence("16: steady by list, trim and height", ToldEdgesTest::steadyByAllThree);
    }

    private static void numbers() {
        Checks.sentence("17: how many there are", ToldEdgesTest::countFromNoneToAll);
        Checks.sentence("17: that wait at the port where the ship is", ToldEdgesTest::countAtThePortOfTheShip);
        Checks.sentence("17: otherwise those on board", ToldEdgesTest::countOfLandedOnes);
        Checks.sentence("18: no such bay", ToldEdgesTest::weightOfNoSuchBay);
        Checks.sentence("18: Returns the weight", ToldEdgesTest::weightFromNoneToTheGreatest);
        Checks.sentence("18: the weight on its stacks", ToldEdgesTest::weightOnItsStacksAlone);
        Checks.sentence("19: the number of blocked containers", ToldEdgesTest::blockedFromNoneToTheGreatest);
        Checks.sentence("19: blocked containers", ToldEdgesTest::blockedByOneFurtherUp);
        Checks.sentence("20: no such port", ToldEdgesTest::liftsAtNoSuchPort);
        Checks.sentence("20: lifted there, and not landed", ToldEdgesTest::liftsFromTheLowestOn);
        Checks.sentence("20: still in their places, and only those landed", ToldEdgesTest::liftsInTheirPlacesNow);
        Checks.sentence("21: on how many free places", ToldEdgesTest::freePlugsFromNoneToAll);
        Checks.sentence("21: the tiers 0 and 1, that are free", ToldEdgesTest::freePlugsOfTwoTiers);
        Checks.sentence("21: of stacks with a plug", ToldEdgesTest::freePlugsOfStacksWithAPlug);
        Checks.sentence("22: no such container", ToldEdgesTest::choicesOfNoSuchContainer);
        Checks.sentence("22: on how many stacks", ToldEdgesTest::choicesFromNoneToAll);
        Checks.sentence("22: it can be loaded", ToldEdgesTest::choicesOfReefers);
        Checks.sentence("23: all that were lifted and put back", ToldEdgesTest::liftedFromNoneOn);
        Checks.sentence("23: so far", ToldEdgesTest::liftedSoFar);
        Checks.sentence("23: when the ship came to ports", ToldEdgesTest::liftedWhenTheShipCame);
    }

    private static void digest() {
        Checks.sentence("24: starts with 283", ToldEdgesTest::digestOfNothing);
        Checks.sentence("24: for each container", ToldEdgesTest::digestOfForty);
        Checks.sentence("24: 1 if the stack has a plug, else 0", ToldEdgesTest::digestOfEachPlug);
        Checks.sentence("24: wraps around as a 64-bit integer", ToldEdgesTest::digestWrapsAround);
        Checks.sentence("24: the port, where() and lifted()", ToldEdgesTest::digestOfEachState);
    }

    public static void main(String[] args) {
        places();
        balance();
        numbers();
        digest();
        Checks.end();
    }
}
