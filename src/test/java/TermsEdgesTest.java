import java.util.Arrays;

/** The edges that "What it is" and "Terms" name, a test for each sentence. */
public final class TermsEdgesTest {
    private static void the512thCall() {
        StowagePlan plan = new StowagePlan();
        Checks.due(0, () -> plan.addContainer(7, 0, 1, 0));
        for (int call = 2; call < 512; call += 2) {
            Checks.due(0, () -> plan.load(0, 5, 4));
            Checks.due(0, () -> plan.lift(5, 4));
        }
        // 511 calls stand behind it.
        Checks.due(0, () -> plan.load(0, 0, 0));
        StowagePlan refusing = new StowagePlan();
        for (int call = 1; call < 512; call++) {
            Checks.due(Checks.INDEX, () -> refusing.where(0));
        }
        Checks.due(true, refusing::isSteady);
        StowagePlan adding = new StowagePlan();
        for (int call = 0; call < 512; call++) {
            Object want = call < 40 ? (Object) call : Checks.STATE;
            Checks.due(want, () -> adding.addContainer(1, 0, 1, 0));
        }
    }

    // ---- the ship

    private static void sixBays() {
        for (int bay = 0; bay < 6; bay++) {
            int b = bay;
            StowagePlan plan = Checks.waiting(1, 1, 5);
            Checks.due(0, () -> plan.load(0, b, 0));
            Checks.due(100 * bay, () -> plan.where(0));
        }
        Checks.refused(Checks.INDEX, () -> Checks.waiting(1, 1, 5), plan -> plan.load(0, -1, 0));
        Checks.refused(Checks.INDEX, () -> Checks.waiting(1, 1, 5), plan -> plan.load(0, 6, 0));
    }

    private static void fiveRows() {
        for (int row = 0; row < 5; row++) {
            int r = row;
            StowagePlan plan = Checks.waiting(1, 1, 5);
            Checks.due(0, () -> plan.load(0, 0, r));
            Checks.due(10 * row, () -> plan.where(0));
        }
        Checks.refused(Checks.INDEX, () -> Checks.waiting(1, 1, 5), plan -> plan.load(0, 0, -1));
        Checks.refused(Checks.INDEX, () -> Checks.waiting(1, 1, 5), plan -> plan.load(0, 0, 5));
    }

    private static void fourOnAStack() {
        StowagePlan plan = Checks.waiting(5, 1, 5);
        for (int tier = 0; tier < 4; tier++) {
            int t = tier;
            Checks.due(t, () -> plan.load(t, 4, 1));
            Checks.due(t, () -> plan.at(4, 1, t));
        }
        Checks.due(Checks.STATE, () -> plan.load(4, 4, 1));
        Checks.due(-1, () -> plan.where(4));
    }

    private static void powerOnTwoTiers() {
        for (int below = 0; below < 4; below++) {
            int b = below;
            StowagePlan plan = Checks.stackOf(ones(b));
            int reefer = plan.addContainer(1, 0, 5, 1);
            Checks.due(b < 2, () -> plan.canLoad(reefer, 2, 2));
        }
    }

    private static int[] ones(int howMany) {
        return Arrays.copyOf(Checks.numbers(1, 1, 1, 1), howMany);
    }

    private static void noPowerWithoutPlug() {
        StowagePlan plan = Checks.quay(Checks.numbers(1, 0, 5, 1), Checks.numbers(1, 0, 5, 0));
        Checks.due(false, () -> plan.canLoad(0, 1, 2));
        plan.load(1, 1, 2);
        Checks.due(false, () -> plan.canLoad(0, 1, 2));
        plan.setPlug(1, 2, true);
        Checks.due(true, () -> plan.canLoad(0, 1, 2));
    }

    private static void plugsAtFirst() {
        for (int bay = 0; bay < 6; bay++) {
            for (int row = 0; row < 5; row++) {
                int b = bay;
                int r = row;
                Checks.due(bay == 2 || bay == 3, () -> new StowagePlan().setPlug(b, r, true));
            }
        }
    }

    // ---- the voyage

    private static void portsInOrder() {
        StowagePlan plan = new StowagePlan();
        for (int port = 0; port < 6; port++) {
            int p = port;
            Checks.due(p, plan::port);
            Checks.due(p < 5 ? (Object) 0 : Checks.STATE, plan::sail);
        }
        Checks.due(5, plan::port);
    }

    private static void voyageEnds() {
        StowagePlan plan = Checks.stackTo(5, 5, 5, 5);
        Checks.sailed(plan, 4);
        Checks.due(4, () -> plan.count(false));
        plan.sail();
        Checks.due(0, () -> plan.count(false));
        Checks.due(2, () -> plan.container(3, 4));
        Checks.due(Checks.STATE, plan::sail);
        Checks.due(Checks.STATE, () -> plan.addContainer(1, 4, 5, 0));
        Checks.due(Checks.ARGUMENT, () -> plan.addContainer(1, 5, 6, 0));
        Checks.due(0, plan::plan);
    }

    // ---- containers

    private static void fortyContainers() {
        StowagePlan plan = new StowagePlan();
        for (int number = 0; number < 40; number++) {
            Checks.due(number, () -> plan.addContainer(1, 0, 1, 0));
        }
        Checks.due(Checks.STATE, () -> plan.addContainer(1, 0, 1, 0));
        Checks.due(1, () -> plan.container(39, 0));
        Checks.due(Checks.INDEX, () -> plan.container(40, 0));
    }

    private static void landedOnesCountAmongForty() {
        StowagePlan plan = Checks.waiting(39, 1, 1);
        plan.load(0, 2, 2);
        plan.sail();
        Checks.due(2, () -> plan.container(0, 4));
        Checks.due(39, () -> plan.addContainer(1, 1, 2, 0));
        Checks.due(Checks.STATE, () -> plan.addContainer(1, 1, 2, 0));
    }

    private static void refusedOnesTakeNoNumber() {
        StowagePlan plan = new StowagePlan();
        Checks.due(Checks.ARGUMENT, () -> plan.addContainer(0, 0, 1, 0));
        Checks.due(0, () -> plan.addContainer(1, 0, 1, 0));
        Checks.due(Checks.ARGUMENT, () -> plan.addContainer(1, 0, 1, 5));
        plan.sail();
        Checks.due(Checks.STATE, () -> plan.addContainer(1, 0, 1, 0));
        Checks.due(1, () -> plan.addContainer(1, 1, 2, 0));
    }

    private static void threeStates() {
        StowagePlan plan = Checks.waiting(1, 1, 1);
        Checks.due(0, () -> plan.container(0, 4));
        plan.load(0, 2, 2);
        Checks.due(1, () -> plan.container(0, 4));
        plan.sail();
        Checks.due(2, () -> plan.container(0, 4));
        Checks.due(false, () -> plan.canLoad(0, 2, 2));
    }

    private static void createdWhereTheShipIsOrComes() {
        for (int port = 0; port < 5; port++) {
            for (int from = 0; from < 5; from++) {
                int f = from;
                StowagePlan plan = Checks.sailed(new StowagePlan(), port);
                Checks.due(from < port ? Checks.STATE : (Object) 0, () -> plan.addContainer(1, f, 5, 0));
            }
        }
    }

    // ---- rules

    private static void loadedWhereItWaits() {
        StowagePlan plan = Checks.quay(Checks.numbers(1, 0, 5, 0), Checks.numbers(1, 1, 5, 0),
                Checks.numbers(1, 2, 5, 0), Checks.numbers(1, 1, 2, 0));
        plan.sail();
        Checks.due(false, () -> plan.canLoad(0, 2, 2));
        Checks.due(true, () -> plan.canLoad(1, 2, 2));
        Checks.due(false, () -> plan.canLoad(2, 2, 2));
        plan.load(3, 2, 2);
        Checks.due(false, () -> plan.canLoad(3, 2, 3));
        plan.lift(2, 2);
        Checks.due(true, () -> plan.canLoad(3, 2, 3));
        plan.load(3, 2, 3);
        plan.sail();
        Checks.due(false, () -> plan.canLoad(3, 2, 3));
        Checks.due(true, () -> plan.canLoad(2, 2, 2));
    }

    private static void lessThanFour() {
        StowagePlan three = Checks.stackTo(5, 5, 5);
        three.addContainer(1, 0, 5, 0);
        Checks.due(true, () -> three.canLoad(3, 2, 2));
        StowagePlan four = Checks.stackTo(5, 5, 5, 5);
        four.addContainer(1, 0, 5, 0);
        Checks.due(false, () -> four.canLoad(4, 2, 2));
        Checks.due(true, () -> four.canLoad(4, 2, 1));
    }

    private static void sixtyOnAStack() {
        StowagePlan plan = Checks.quay(Checks.numbers(30, 0, 5, 0), Checks.numbers(29, 0, 5, 0),
                Checks.numbers(1, 0, 5, 0), Checks.numbers(2, 0, 5, 0));
        plan.load(0, 1, 1);
        plan.load(1, 1, 1);
        Checks.due(false, () -> plan.canLoad(3, 1, 1));
        Checks.due(true, () -> plan.canLoad(2, 1, 1));
        Checks.due(2, () -> plan.load(2, 1, 1));
    }

    private static void otherLimitsOfAStack() {
        StowagePlan plan = Checks.quay(Checks.numbers(1, 0, 5, 0), Checks.numbers(2, 0, 5, 0),
                Checks.numbers(30, 0, 5, 0));
        plan.setLimits(1, 60, 200);
        Checks.due(true, () -> plan.canLoad(0, 1, 1));
        Checks.due(false, () -> plan.canLoad(1, 1, 1));
        plan.setLimits(29, 60, 200);
        Checks.due(false, () -> plan.canLoad(2, 1, 1));
        plan.setLimits(30, 60, 200);
        Checks.due(true, () -> plan.canLoad(2, 1, 1));
        StowagePlan full = Checks.stackOf(30, 30, 30);
        full.addContainer(30, 0, 5, 0);
        full.setLimits(119, 60, 200);
        Checks.due(false, () -> full.canLoad(3, 2, 2));
        full.setLimits(120, 60, 200);
        Checks.due(true, () -> full.canLoad(3, 2, 2));
    }

    private static void onlyItsOwnStackWeighs() {
        StowagePlan plan = Checks.quay(Checks.numbers(30, 0, 5, 0), Checks.numbers(30, 0, 5, 0),
                Checks.numbers(30, 0, 5, 0));
        plan.setLimits(30, 60, 200);
        plan.load(0, 1, 1);
        Checks.due(true, () -> plan.canLoad(1, 1, 2));
        Checks.due(true, () -> plan.canLoad(1, 2, 1));
    }

    private static void onlyReefersNeedPower() {
        for (int kind = 0; kind < 5; kind++) {
            StowagePlan plan = Checks.quay(Checks.numbers(1, 0, 5, kind));
            Checks.due(kind != 1, () -> plan.canLoad(0, 0, 0));
            Checks.due(true, () -> plan.canLoad(0, 3, 0));
        }
    }

    /** Whether a container of this kind can be loaded, with one of the other kind in bay 2 and row 2. */
    private static Checks.Call besideKind(int other, int kind, int bay, int row) {
        StowagePlan plan = Checks.quay(Checks.numbers(1, 0, 5, other), Checks.numbers(1, 0, 5, kind));
        plan.load(0, 2, 2);
        return () -> plan.canLoad(1, bay, row);
    }

    private static void onlyOtherClassesStandApart() {
        for (int other = 0; other < 5; other++) {
            for (int kind = 0; kind < 5; kind++) {
                boolean isFree = other < 2 || kind < 2 || other == kind;
                Checks.due(isFree, besideKind(other, kind, 2, 2));
                Checks.due(isFree, besideKind(other, kind, 3, 3));
            }
        }
    }

    private static void onlyThoseOnBoardKeepApart() {
        StowagePlan plan = Checks.quay(Checks.numbers(1, 0, 1, 2), Checks.numbers(1, 0, 5, 3));
        Checks.due(30, () -> plan.choices(1));
        plan.load(0, 2, 2);
        Checks.due(30 - 5 - 3 - 3, () -> plan.choices(1));
        plan.lift(2, 2);
        Checks.due(30, () -> plan.choices(1));
        StowagePlan landed = Checks.quay(Checks.numbers(1, 0, 1, 2), Checks.numbers(1, 1, 5, 3));
        landed.load(0, 2, 2);
        landed.sail();
        Checks.due(30, () -> landed.choices(1));
    }

    private static void apartFromAll() {
        StowagePlan plan = Checks.quay(Checks.numbers(1, 0, 5, 2), Checks.numbers(1, 0, 5, 3),
                Checks.numbers(1, 0, 5, 2));
        plan.load(0, 0, 0);
        plan.load(1, 5, 4);
        // Near its own class, but near the other one too: bay 5 and two stacks of bay 4 are not free.
        Checks.due(true, () -> plan.canLoad(2, 0, 0));
        Checks.due(false, () -> plan.canLoad(2, 4, 3));
        Checks.due(true, () -> plan.canLoad(2, 4, 2));
        Checks.due(30 - 5 - 2, () -> plan.choices(2));
    }

    private static void apartByTwoBays() {
        for (int row = 0; row < 5; row++) {
            Checks.due(true, besideKind(2, 3, 0, row));
            Checks.due(true, besideKind(2, 3, 4, row));
            Checks.due(false, besideKind(2, 3, 2, row));
        }
        Checks.due(true, besideKind(2, 3, 5, 2));
        Checks.due(false, besideKind(2, 3, 1, 2));
        Checks.due(false, besideKind(2, 3, 3, 2));
    }

    private static void apartByABayAndTwoRows() {
        for (int bay = 1; bay < 4; bay += 2) {
            Checks.due(true, besideKind(2, 3, bay, 0));
            Checks.due(false, besideKind(2, 3, bay, 1));
            Checks.due(false, besideKind(2, 3, bay, 2));
            Checks.due(false, besideKind(2, 3, bay, 3));
            Checks.due(true, besideKind(2, 3, bay, 4));
        }
        StowagePlan corner = Checks.quay(Checks.numbers(1, 0, 5, 2), Checks.numbers(1, 0, 5, 3));
        corner.load(0, 0, 0);
        Checks.due(false, () -> corner.canLoad(1, 0, 4));
        Checks.due(true, () -> corner.canLoad(1, 1, 4));
    }

    // ---- the ship's state

    private static void list() {
        int[] arms = {-2, -1, 0, 1, 2};
        for (int row = 0; row < 5; row++) {
            StowagePlan plan = Checks.with(new StowagePlan(), 30, 2, row);
            Checks.due(30 * arms[row], () -> plan.moment(false));
        }
    }

    private static void trim() {
        int[] arms = {-5, -3, -1, 1, 3, 5};
        for (int bay = 0; bay < 6; bay++) {
            StowagePlan plan = Checks.with(new StowagePlan(), 30, bay, 2);
            Checks.due(30 * arms[bay], () -> plan.moment(true));
        }
    }

    private static void heightOfTiers() {
        int[] above = {1, 4, 9, 16};
        for (int tier = 0; tier < 4; tier++) {
            StowagePlan plan = Checks.stackOf(ones(tier + 1));
            Checks.due((double) above[tier] / (tier + 1), plan::height);
        }
    }

    private static void listAtItsLimit() {
        for (int row = 0; row < 5; row += 4) {
            int near = row == 0 ? 1 : 3;
            StowagePlan plan = Checks.with(new StowagePlan(), 30, 2, row);
            Checks.due(60, () -> Math.abs(plan.moment(false)));
            Checks.due(true, plan::isSteady);
            Checks.with(plan, 1, 2, near);
            Checks.due(61, () -> Math.abs(plan.moment(false)));
            Checks.due(false, plan::isSteady);
        }
    }

    private static void trimAtItsLimit() {
        for (int bay = 0; bay < 6; bay += 5) {
            int near = bay == 0 ? 2 : 3;
            StowagePlan plan = Checks.with(Checks.with(new StowagePlan(), 30, bay, 2), 10, bay, 2);
            Checks.due(200, () -> Math.abs(plan.moment(true)));
            Checks.due(true, plan::isSteady);
            Checks.with(plan, 1, near, 2);
            Checks.due(201, () -> Math.abs(plan.moment(true)));
            Checks.due(false, plan::isSteady);
        }
    }

    private static void emptyShipIsSteady() {
        StowagePlan plan = Checks.waiting(1, 30, 5);
        plan.setLimits(60, 0, 0);
        Checks.due(true, plan::isSteady);
        plan.load(0, 2, 2);
        Checks.due(false, plan::isSteady);
        plan.lift(2, 2);
        Checks.due(true, plan::isSteady);
    }

    private static void heightAtMostFive() {
        StowagePlan at = Checks.stackOf(1, 1, 1, 3);
        Checks.due(5.0, at::height);
        Checks.due(true, at::isSteady);
        StowagePlan above = Checks.stackOf(1, 1, 1, 4);
        Checks.due(false, above::isSteady);
        // 799 in all: the nearest height above 5 is that of one weight less on a tier 1.
        StowagePlan ten = new StowagePlan();
        ten.setLimits(120, 1000, 1000);
        for (int stack = 0; stack < 10; stack++) {
            for (int weight : Checks.numbers(10, stack < 9 ? 10 : 9, 30, 30)) {
                Checks.with(ten, weight, 2 + stack / 5, stack % 5);
            }
        }
        Checks.due((5 * 799 + 2) / 799.0, ten::height);
        Checks.due(false, ten::isSteady);
        StowagePlan even = new StowagePlan();
        even.setLimits(120, 1000, 1000);
        for (int stack = 0; stack < 10; stack++) {
            for (int weight : Checks.numbers(10, 10, 30, 30)) {
                Checks.with(even, weight, 2 + stack / 5, stack % 5);
            }
        }
        Checks.due(5.0, even::height);
        Checks.due(true, even::isSteady);
    }

    // ---- blocked, and exceptions

    private static void blockedByALaterPort() {
        Checks.due(1, () -> Checks.stackTo(2, 3).blocked());
        Checks.due(0, () -> Checks.stackTo(2, 2).blocked());
        Checks.due(0, () -> Checks.stackTo(3, 2).blocked());
        Checks.due(3, () -> Checks.stackTo(2, 1, 1, 3).blocked());
        Checks.due(0, () -> Checks.stackTo(5, 5, 5, 5).blocked());
    }

    private static void blockedInItsOwnStack() {
        StowagePlan plan = Checks.stackTo(2);
        Checks.with(plan, 1, 2, 1);
        Checks.with(plan, 1, 2, 3);
        Checks.with(plan, 1, 1, 2);
        Checks.with(plan, 1, 3, 2);
        Checks.due(0, plan::blocked);
        Checks.with(plan, 1, 2, 2);
        Checks.due(1, plan::blocked);
    }

    private static void blockedOnesAreCounted() {
        Checks.due(1, () -> Checks.stackTo(1, 5, 4, 3).blocked());
        Checks.due(3, () -> Checks.stackTo(3, 2, 1, 4).blocked());
    }

    private static StowagePlan full() {
        return Checks.waiting(40, 1, 5);
    }

    private static StowagePlan withReefer() {
        StowagePlan plan = Checks.quay(Checks.numbers(1, 0, 5, 1));
        plan.load(0, 2, 2);
        return plan;
    }

    private static void aThrowChangesNothing() {
        Checks.refused(Checks.ARGUMENT, TermsEdgesTest::withReefer, plan -> plan.addContainer(31, 0, 1, 0));
        Checks.refused(Checks.STATE, TermsEdgesTest::full, plan -> plan.addContainer(1, 0, 1, 0));
        Checks.refused(Checks.INDEX, TermsEdgesTest::withReefer, plan -> plan.container(0, 5));
        Checks.refused(Checks.ARGUMENT, TermsEdgesTest::withReefer, plan -> plan.setLimits(50, 50, 1001));
        Checks.refused(Checks.INDEX, TermsEdgesTest::withReefer, plan -> plan.setPlug(2, 5, false));
        Checks.refused(Checks.STATE, TermsEdgesTest::withReefer, plan -> plan.setPlug(2, 2, false));
        Checks.refused(Checks.INDEX, TermsEdgesTest::withReefer, plan -> plan.canLoad(0, 2, 5));
        Checks.refused(Checks.INDEX, TermsEdgesTest::withReefer, plan -> plan.load(0, 2, 5));
        Checks.refused(Checks.STATE, TermsEdgesTest::withReefer, plan -> plan.load(0, 2, 2));
        Checks.refused(Checks.INDEX, TermsEdgesTest::withReefer, plan -> plan.lift(6, 2));
        Checks.refused(Checks.STATE, TermsEdgesTest::withReefer, plan -> plan.lift(2, 1));
        Checks.refused(Checks.STATE, () -> Checks.sailed(withReefer(), 1), plan -> plan.lift(2, 2));
        Checks.refused(Checks.STATE, () -> Checks.sailed(withReefer(), 5), StowagePlan::sail);
        Checks.refused(Checks.STATE, () -> Checks.stackOf(1, 1, 1, 4), StowagePlan::sail);
        Checks.refused(Checks.INDEX, TermsEdgesTest::withReefer, plan -> plan.at(2, 2, 4));
        Checks.refused(Checks.INDEX, TermsEdgesTest::withReefer, plan -> plan.where(1));
        Checks.refused(Checks.INDEX, TermsEdgesTest::withReefer, plan -> plan.weight(6));
        Checks.refused(Checks.INDEX, TermsEdgesTest::withReefer, plan -> plan.lifts(6));
        Checks.refused(Checks.INDEX, TermsEdgesTest::withReefer, plan -> plan.choices(1));
    }

    private static void theFirstNamedIsThrown() {
        // Wrong arguments, and a port that is left; wrong arguments, and 40 containers.
        Checks.refused(Checks.ARGUMENT, () -> Checks.sailed(new StowagePlan(), 2), plan -> plan.addContainer(0, 1, 2, 0));
        Checks.refused(Checks.ARGUMENT, () -> Checks.sailed(new StowagePlan(), 2), plan -> plan.addContainer(1, 1, 1, 0));
        Checks.refused(Checks.ARGUMENT, () -> Checks.sailed(new StowagePlan(), 2), plan -> plan.addContainer(1, -1, 2, 0));
        Checks.refused(Checks.ARGUMENT, () -> Checks.sailed(new StowagePlan(), 2), plan -> plan.addContainer(1, 1, 2, 5));
        Checks.refused(Checks.ARGUMENT, TermsEdgesTest::full, plan -> plan.addContainer(31, 0, 1, 0));
        Checks.refused(Checks.ARGUMENT, TermsEdgesTest::full, plan -> plan.addContainer(1, 0, 6, 0));
        Checks.refused(Checks.ARGUMENT, TermsEdgesTest::full, plan -> plan.addContainer(1, 5, 5, 0));
        Checks.refused(Checks.ARGUMENT, TermsEdgesTest::full, plan -> plan.addContainer(1, 0, 1, -1));
        // No such row, though a reefer stands in the ship; no such place for one that cannot be loaded.
        Checks.refused(Checks.INDEX, TermsEdgesTest::withReefer, plan -> plan.setPlug(2, -1, false));
        Checks.refused(Checks.INDEX, TermsEdgesTest::withReefer, plan -> plan.load(0, 6, 2));
        Checks.refused(Checks.INDEX, TermsEdgesTest::withReefer, plan -> plan.load(0, 2, -1));
        Checks.refused(Checks.INDEX, TermsEdgesTest::withReefer, plan -> plan.load(1, 2, 2));
        // Bays and rows whose number as one would be that of another stack.
        Checks.refused(Checks.INDEX, TermsEdgesTest::withReefer, plan -> plan.lift(1, 7));
        Checks.refused(Checks.INDEX, TermsEdgesTest::withReefer, plan -> plan.lift(3, -3));
    }

    private static void ship() {
        Checks.sentence("An object is used for at most 512 calls", TermsEdgesTest::the512thCall);
        Checks.sentence("The ship has 6 bays, 0 to 5", TermsEdgesTest::sixBays);
        Checks.sentence("and 5 rows, 0 to 4", TermsEdgesTest::fiveRows);
        Checks.sentence("at most 4 containers, on tiers 0 to 3 from below", TermsEdgesTest::fourOnAStack);
        Checks.sentence("with a plug, there is power on its tiers 0 and 1", TermsEdgesTest::powerOnTwoTiers);
        Checks.sentence("Each stack can have a plug", TermsEdgesTest::noPowerWithoutPlug);
        Checks.sentence("At first the stacks of the bays 2 and 3 have plugs", TermsEdgesTest::plugsAtFirst);
        Checks.sentence("the ports 0 to 5, in this order; at port 0 at first", TermsEdgesTest::portsInOrder);
        Checks.sentence("A voyage ends at port 5", TermsEdgesTest::voyageEnds);
    }

    private static void containers() {
        Checks.sentence("at most 40, numbered from 0", TermsEdgesTest::fortyContainers);
        Checks.sentence("at most 40, landed ones among them", TermsEdgesTest::landedOnesCountAmongForty);
        Checks.sentence("in the order of their creation", TermsEdgesTest::refusedOnesTakeNoNumber);
        Checks.sentence("It waits, is on board, or is landed", TermsEdgesTest::threeStates);
        Checks.sentence("only for a port that the ship has not left", TermsEdgesTest::createdWhereTheShipIsOrComes);
    }

    private static void rules() {
        Checks.sentence("if it waits at the port where the ship is", TermsEdgesTest::loadedWhereItWaits);
        Checks.sentence("the stack has less than 4 containers", TermsEdgesTest::lessThanFour);
        Checks.sentence("at most the limit of a stack (60, at first)", TermsEdgesTest::sixtyOnAStack);
        Checks.sentence("at most the limit of a stack (1 to 120)", TermsEdgesTest::otherLimitsOfAStack);
        Checks.sentence("all weights of the stack with it", TermsEdgesTest::onlyItsOwnStackWeighs);
        Checks.sentence("it is no REEFER, or there is power on its tier", TermsEdgesTest::onlyReefersNeedPower);
        Checks.sentence("DANGEROUS of another class", TermsEdgesTest::onlyOtherClassesStandApart);
        Checks.sentence("apart from all on board", TermsEdgesTest::onlyThoseOnBoardKeepApart);
        Checks.sentence("apart from all", TermsEdgesTest::apartFromAll);
        Checks.sentence("apart, if their bays differ by at least 2", TermsEdgesTest::apartByTwoBays);
        Checks.sentence("or their bays differ by 1 and their rows by at least 2", TermsEdgesTest::apartByABayAndTwoRows);
    }

    private static void state() {
        Checks.sentence("list: the weight times (the row less 2)", TermsEdgesTest::list);
        Checks.sentence("trim: the weight times (twice the bay less 5)", TermsEdgesTest::trim);
        Checks.sentence("height: the weight times (twice the tier, and 1)", TermsEdgesTest::heightOfTiers);
        Checks.sentence("its list without sign is at most the limit (60, at first)", TermsEdgesTest::listAtItsLimit);
        Checks.sentence("its trim without sign is at most the limit (200, at first)", TermsEdgesTest::trimAtItsLimit);
        Checks.sentence("and it has no containers", TermsEdgesTest::emptyShipIsSteady);
        Checks.sentence("or its height is at most 5", TermsEdgesTest::heightAtMostFive);
        Checks.sentence("blocked, if one above it is to be landed at a later port", TermsEdgesTest::blockedByALaterPort);
        Checks.sentence("one above it in its stack", TermsEdgesTest::blockedInItsOwnStack);
        Checks.sentence("The blocked ones are counted", TermsEdgesTest::blockedOnesAreCounted);
        Checks.sentence("A method that throws an exception changes nothing", TermsEdgesTest::aThrowChangesNothing);
        Checks.sentence("the one that is named first is thrown", TermsEdgesTest::theFirstNamedIsThrown);
    }

    public static void main(String[] args) {
        ship();
        containers();
        rules();
        state();
        Checks.end();
    }
}
