/** The edges that promise 9 names (plan), a test for each part of its sentences. */
public final class PlanEdgesTest {
    private static final int REEFER = 1;

    /**
     * A new ship where REEFERs can stand in these stacks alone (10 times the bay, and the row), so
     * that a test can say between which stacks plan() has to choose.
     */
    private static StowagePlan poweredAt(int... places) {
        StowagePlan plan = new StowagePlan();
        for (int row = 0; row < 5; row++) {
            plan.setPlug(2, row, false);
            plan.setPlug(3, row, false);
        }
        for (int place : places) {
            plan.setPlug(place / 10, place % 10, true);
        }
        return plan;
    }

    /** What plan() loads of two REEFERs, each as its weight and its port, where just one has room. */
    private static void loadsOneOf(int number, int[] first, int[] second) {
        StowagePlan plan = poweredAt(22);
        plan.addContainer(first[0], 0, first[1], REEFER);
        plan.addContainer(second[0], 0, second[1], REEFER);
        plan.setLimits(Math.max(first[0], second[0]), 60, 200);
        Checks.due(1, plan::plan);
        Checks.due(220, () -> plan.where(number));
        Checks.due(-1, () -> plan.where(1 - number));
    }

    // ---- how many

    private static void noContainers() {
        Checks.due(0, () -> new StowagePlan().plan());
        Checks.due(0, () -> Checks.sailed(new StowagePlan(), 5).plan());
    }

    private static void noneThatCanBeLoaded() {
        StowagePlan heavy = Checks.waiting(40, 6, 5);
        heavy.setLimits(5, 60, 200);
        Checks.due(0, heavy::plan);
        Checks.due(40, () -> heavy.count(true));
        heavy.setLimits(6, 60, 200);
        Checks.due(30, heavy::plan);
        StowagePlan unpowered = poweredAt();
        unpowered.addContainer(1, 0, 5, REEFER);
        Checks.due(0, unpowered::plan);
        StowagePlan elsewhere = Checks.quay(Checks.numbers(1, 1, 5, 0), Checks.numbers(1, 4, 5, 0));
        Checks.due(0, elsewhere::plan);
        elsewhere.sail();
        Checks.due(1, elsewhere::plan);
        Checks.due(0, () -> Checks.sailed(Checks.waiting(40, 1, 5), 1).plan());
    }

    private static void allForty() {
        StowagePlan plan = Checks.waiting(40, 30, 5);
        Checks.due(40, plan::plan);
        Checks.due(40, () -> plan.count(false));
        Checks.due(0, () -> plan.count(true));
        Checks.due(0, plan::plan);
    }

    private static void moreThanThereIsRoomFor() {
        StowagePlan plan = Checks.waiting(40, 1, 5);
        plan.setLimits(1, 60, 200);
        Checks.due(30, plan::plan);
        Checks.due(10, () -> plan.count(true));
        Checks.due(0, plan::plan);
        plan.setLimits(2, 60, 200);
        Checks.due(10, plan::plan);
        StowagePlan reefers = poweredAt(54);
        for (int i = 0; i < 3; i++) {
            reefers.addContainer(1, 0, 5, REEFER);
        }
        Checks.due(2, reefers::plan);
        Checks.due(540, () -> reefers.where(0));
        Checks.due(541, () -> reefers.where(1));
    }

    private static void onlyThoseLoadedNowAreCounted() {
        StowagePlan plan = Checks.waiting(5, 1, 5);
        plan.load(2, 0, 0);
        plan.load(4, 5, 0);
        Checks.due(3, plan::plan);
        Checks.due(0, () -> plan.where(2));
        Checks.due(500, () -> plan.where(4));
    }

    private static void unsteadyToo() {
        StowagePlan plan = Checks.waiting(1, 30, 5);
        plan.setLimits(60, 0, 0);
        Checks.due(1, plan::plan);
        Checks.due(220, () -> plan.where(0));
        Checks.due(false, plan::isSteady);
        Checks.due(Checks.STATE, plan::sail);
    }

    private static void classesApart() {
        StowagePlan plan = Checks.quay(Checks.numbers(1, 0, 5, 2), Checks.numbers(1, 0, 5, 3),
                Checks.numbers(1, 0, 5, 4), Checks.numbers(1, 0, 5, 2), Checks.numbers(1, 0, 5, 3));
        // At 220; two bays off at 420; then two bays off from both at 020; with its own class.
        Checks.due(5, plan::plan);
        Checks.due(220, () -> plan.where(0));
        Checks.due(420, () -> plan.where(1));
        Checks.due(20, () -> plan.where(2));
        // Another class can stand in the rows 0 and 4 of four bays alone, until these are full.
        StowagePlan crowded = new StowagePlan();
        crowded.addContainer(1, 0, 5, 2);
        crowded.addContainer(1, 0, 5, 2);
        crowded.load(0, 1, 2);
        crowded.load(1, 4, 2);
        crowded.addContainer(2, 0, 5, 3);
        crowded.setLimits(2, 60, 200);
        for (int bay : Checks.numbers(0, 2, 3, 5)) {
            Checks.with(crowded, 2, bay, 0);
        }
        Checks.due(4, () -> crowded.choices(2));
        for (int bay : Checks.numbers(0, 2, 3, 5)) {
            Checks.with(crowded, 1, bay, 4);
        }
        Checks.due(0, () -> crowded.choices(2));
        Checks.due(0, crowded::plan);
    }

    // ---- which one

    private static void theLatestPort() {
        loadsOneOf(1, Checks.numbers(30, 4), Checks.numbers(1, 5));
        loadsOneOf(0, Checks.numbers(1, 2), Checks.numbers(30, 1));
        loadsOneOf(1, Checks.numbers(5, 1), Checks.numbers(5, 5));
    }

    private static void theHeaviest() {
        loadsOneOf(1, Checks.numbers(29, 3), Checks.numbers(30, 3));
        loadsOneOf(0, Checks.numbers(2, 5), Checks.numbers(1, 5));
    }

    private static void theSmallestNumber() {
        loadsOneOf(0, Checks.numbers(7, 3), Checks.numbers(7, 3));
        StowagePlan plan = poweredAt(22, 32);
        plan.setLimits(7, 60, 200);
        for (int i = 0; i < 4; i++) {
            plan.addContainer(7, 0, 3, REEFER);
        }
        plan.load(0, 2, 2);
        Checks.due(1, plan::plan);
        Checks.due(320, () -> plan.where(1));
    }

    private static void oneThatCanBeLoaded() {
        StowagePlan plan = poweredAt(22);
        plan.addContainer(10, 0, 5, REEFER);
        plan.addContainer(9, 0, 1, REEFER);
        plan.addContainer(9, 1, 5, REEFER);
        plan.setLimits(9, 60, 200);
        Checks.due(1, plan::plan);
        Checks.due(220, () -> plan.where(1));
    }

    private static void theEarlierOnesAbove() {
        StowagePlan plan = poweredAt(22);
        plan.addContainer(1, 0, 1, REEFER);
        plan.addContainer(1, 0, 5, REEFER);
        Checks.due(2, plan::plan);
        Checks.due(221, () -> plan.where(0));
        Checks.due(220, () -> plan.where(1));
        Checks.due(0, plan::blocked);
    }

    // ---- where

    private static void aboveTheFewestEarlierOnes() {
        StowagePlan plan = poweredAt(22, 20);
        plan.load(plan.addContainer(1, 0, 2, 0), 2, 2);
        plan.addContainer(30, 0, 3, REEFER);
        // Row 0 leans the ship by 60, but nothing stands there.
        Checks.due(1, plan::plan);
        Checks.due(200, () -> plan.where(1));
        StowagePlan same = poweredAt(22, 20);
        same.load(same.addContainer(1, 0, 3, 0), 2, 2);
        same.addContainer(30, 0, 3, REEFER);
        Checks.due(1, same::plan);
        Checks.due(221, () -> same.where(1));
        StowagePlan later = poweredAt(22, 20);
        later.load(later.addContainer(1, 0, 4, 0), 2, 2);
        later.addContainer(30, 0, 3, REEFER);
        Checks.due(1, later::plan);
        Checks.due(221, () -> later.where(1));
    }

    /** A new ship whose limit of a stack is 30, which each stack but 20 and 22 has reached; list 60, trim 60. */
    private static StowagePlan closed() {
        StowagePlan plan = new StowagePlan();
        plan.setLimits(30, 60, 200);
        for (int stack = 0; stack < 30; stack++) {
            if (stack != 10 && stack != 12) {
                Checks.with(plan, 30, stack / 5, stack % 5);
            }
        }
        return plan;
    }

    private static void earlierOnesAreCounted() {
        StowagePlan plan = closed();
        Checks.due(60, () -> plan.moment(false));
        // In row 0, which takes from the list, three below it are earlier; in row 2 there are two.
        for (int to : Checks.numbers(1, 2, 3)) {
            plan.load(plan.addContainer(1, 0, to, 0), 2, 0);
        }
        for (int to : Checks.numbers(1, 4, 2)) {
            plan.load(plan.addContainer(1, 0, to, 0), 2, 2);
        }
        int last = plan.addContainer(1, 0, 4, 0);
        Checks.due(1, plan::plan);
        Checks.due(223, () -> plan.where(last));
        StowagePlan even = closed();
        for (int to : Checks.numbers(1, 5, 3)) {
            even.load(even.addContainer(1, 0, to, 0), 2, 0);
        }
        for (int to : Checks.numbers(1, 4, 2)) {
            even.load(even.addContainer(1, 0, to, 0), 2, 2);
        }
        int other = even.addContainer(1, 0, 4, 0);
        Checks.due(1, even::plan);
        Checks.due(203, () -> even.where(other));
    }

    private static void theListNearestToZero() {
        // The list is 30 before. With it: 10 in row 1, 50 in row 3.
        StowagePlan plan = Checks.with(poweredAt(21, 23), 30, 2, 3);
        plan.addContainer(20, 0, 5, REEFER);
        Checks.due(1, plan::plan);
        Checks.due(210, () -> plan.where(1));
        // The list is 3 before. With it: 1 in row 1, 3 in row 2; the list counts before trim and bay.
        StowagePlan signs = Checks.with(poweredAt(22, 51), 3, 2, 3);
        signs.addContainer(2, 0, 5, REEFER);
        Checks.due(1, signs::plan);
        Checks.due(510, () -> signs.where(1));
        // The list is 3 before. With it: -1 in row 0, 3 in row 2; the sign does not count.
        StowagePlan below = Checks.with(poweredAt(22, 50), 3, 2, 3);
        below.addContainer(2, 0, 5, REEFER);
        Checks.due(1, below::plan);
        Checks.due(500, () -> below.where(1));
        // The list is -60 before. With it: 0 in row 4, -60 in row 2.
        StowagePlan leaning = Checks.with(poweredAt(22, 24), 30, 2, 0);
        leaning.addContainer(30, 0, 5, REEFER);
        Checks.due(1, leaning::plan);
        Checks.due(240, () -> leaning.where(1));
        Checks.due(0, () -> leaning.moment(false));
    }

    private static void theTrimNearestToZero() {
        // The trim is -10 before. With it: -8 in bay 3, -4 in bay 4, 0 in bay 5.
        StowagePlan plan = Checks.with(poweredAt(32, 42, 52), 2, 0, 2);
        plan.addContainer(2, 0, 5, REEFER);
        Checks.due(1, plan::plan);
        Checks.due(520, () -> plan.where(1));
        // The trim is 5 before. With it: -1 in bay 1, 3 in bay 2, 7 in bay 3.
        StowagePlan signs = Checks.with(poweredAt(12, 22, 32), 1, 5, 2);
        signs.addContainer(2, 0, 5, REEFER);
        Checks.due(1, signs::plan);
        Checks.due(120, () -> signs.where(1));
        // The list is looked at first: row 2 in bay 0, not row 1 in bay 3.
        StowagePlan list = poweredAt(2, 31);
        list.addContainer(2, 0, 5, REEFER);
        Checks.due(1, list::plan);
        Checks.due(20, () -> list.where(0));
        // Lists of -1 and 1 are as near: bay 3 has the nearer trim, -1 + 2, against -1 - 2.
        StowagePlan even = Checks.with(poweredAt(21, 32), 1, 2, 3);
        even.addContainer(2, 0, 5, REEFER);
        Checks.due(1, even::plan);
        Checks.due(320, () -> even.where(1));
    }

    /** List 1 and trim 0: one of weight 2 is as near in the rows 1 and 2 of the bays 2 and 3. */
    private static StowagePlan even(int... places) {
        StowagePlan plan = Checks.with(Checks.with(poweredAt(places), 1, 2, 3), 1, 3, 2);
        plan.addContainer(2, 0, 5, REEFER);
        return plan;
    }

    private static void theSmallestBay() {
        StowagePlan plan = even(22, 31, 32);
        Checks.due(1, plan::plan);
        Checks.due(220, () -> plan.where(2));
        Checks.due(220, () -> {
            StowagePlan empty = Checks.waiting(1, 30, 1);
            empty.plan();
            return empty.where(0);
        });
    }

    private static void theSmallestRow() {
        StowagePlan plan = even(21, 22, 31, 32);
        Checks.due(1, plan::plan);
        Checks.due(210, () -> plan.where(2));
        StowagePlan one = even(31, 32);
        Checks.due(1, one::plan);
        Checks.due(310, () -> one.where(2));
    }

    public static void main(String[] args) {
        Checks.sentence("9: Loads all that it can (no containers)", PlanEdgesTest::noContainers);
        Checks.sentence("9: as long as there are containers that can be loaded", PlanEdgesTest::noneThatCanBeLoaded);
        Checks.sentence("9: Loads all that it can (40 containers)", PlanEdgesTest::allForty);
        Checks.sentence("9: Loads all that it can (no room)", PlanEdgesTest::moreThanThereIsRoomFor);
        Checks.sentence("9: Returns how many were loaded", PlanEdgesTest::onlyThoseLoadedNowAreCounted);
        Checks.sentence("9: Loads all that it can (unsteady)", PlanEdgesTest::unsteadyToo);
        Checks.sentence("9: Loads all that it can (DANGEROUS)", PlanEdgesTest::classesApart);
        Checks.sentence("9: the one with the latest port", PlanEdgesTest::theLatestPort);
        Checks.sentence("9: of the same port the heaviest", PlanEdgesTest::theHeaviest);
        Checks.sentence("9: of the same weight the smallest number", PlanEdgesTest::theSmallestNumber);
        Checks.sentence("9: of these (that can be loaded somewhere)", PlanEdgesTest::oneThatCanBeLoaded);
        Checks.sentence("9: of these the one with the latest port (in turn)", PlanEdgesTest::theEarlierOnesAbove);
        Checks.sentence("9: above containers to be landed earlier than it", PlanEdgesTest::aboveTheFewestEarlierOnes);
        Checks.sentence("9: the smallest number of containers", PlanEdgesTest::earlierOnesAreCounted);
        Checks.sentence("9: with which the list is nearest to 0", PlanEdgesTest::theListNearestToZero);
        Checks.sentence("9: then the trim is nearest to 0", PlanEdgesTest::theTrimNearestToZero);
        Checks.sentence("9: then the smallest bay", PlanEdgesTest::theSmallestBay);
        Checks.sentence("9: then with the smallest row", PlanEdgesTest::theSmallestRow);
        Checks.end();
    }
}
