/**
 * A stowage plan for a feeder ship: containers wait on the quays of a voyage, are loaded on
 * stacks, lifted, carried on and landed. A container is called a box inside this class.
 */
public final class StowagePlan {
    private static final int BAYS = 6;
    private static final int ROWS = 5;
    private static final int TIERS = 4;
    private static final int POWERED_TIERS = 2;
    private static final int LAST_PORT = 5;

    private static final int MOST_BOXES = 40;
    private static final int HEAVIEST_BOX = 30;
    private static final int REEFER = 1;
    private static final int FIRST_DANGEROUS = 2;
    private static final int LAST_KIND = 4;

    private static final int WAITING = 0;
    private static final int ON_BOARD = 1;
    private static final int LANDED = 2;

    private static final int HIGHEST_STACK_LIMIT = 120;
    private static final int HIGHEST_MOMENT_LIMIT = 1000;
    private static final int HIGHEST_STEADY = 5;

    private static final int QUESTIONS = 5;
    private static final long DIGEST_START = 283L;

    private final Box[] boxes = new Box[MOST_BOXES];
    private final Stack[] stacks = new Stack[BAYS * ROWS];
    private int boxCount = 0;
    private int shipPort = 0;
    private int stackLimit = 60;
    private int listLimit = 60;
    private int trimLimit = 200;
    private int putBack = 0;

    public StowagePlan() {
        for (int i = 0; i < stacks.length; i++) {
            int bay = i / ROWS;
            stacks[i] = new Stack(bay, i % ROWS, bay == 2 || bay == 3);
        }
    }

    // ---- containers and limits

    public int addContainer(int weight, int from, int to, int kind)
            throws IllegalArgumentException, IllegalStateException {
        if (!isWithin(weight, 1, HEAVIEST_BOX) || !isWithin(from, 0, LAST_PORT - 1)
                || to <= from || to > LAST_PORT || !isWithin(kind, 0, LAST_KIND)) {
            throw new IllegalArgumentException("no container is like this");
        }
        if (from < shipPort) {
            throw new IllegalStateException("the ship has left this port");
        }
        if (boxCount < 0 || boxCount >= boxes.length) {
            throw new IllegalStateException("there are 40 containers");
        }
        int number = boxCount;
        boxes[number] = new Box(number, weight, from, to, kind);
        boxCount = number + 1;
        return number;
    }

    public int container(int container, int what) throws IndexOutOfBoundsException {
        Box box = boxNumbered(container);
        if (box == null || !isWithin(what, 0, QUESTIONS - 1)) {
            throw new IndexOutOfBoundsException("no such container or question");
        }
        return box.tell(what);
    }

    public int setLimits(int stack, int list, int trim) throws IllegalArgumentException {
        if (!isWithin(stack, 1, HIGHEST_STACK_LIMIT) || !isWithin(list, 0, HIGHEST_MOMENT_LIMIT)
                || !isWithin(trim, 0, HIGHEST_MOMENT_LIMIT)) {
            throw new IllegalArgumentException("no such limit");
        }
        int before = stackLimit;
        stackLimit = stack;
        listLimit = list;
        trimLimit = trim;
        return before;
    }

    public boolean setPlug(int bay, int row, boolean isOn)
            throws IndexOutOfBoundsException, IllegalStateException {
        Stack stack = stackAt(bay, row);
        if (stack == null) {
            throw new IndexOutOfBoundsException("no such bay or row");
        }
        if (!isOn && stack.hasReefer()) {
            throw new IllegalStateException("a reefer needs this plug");
        }
        boolean before = stack.hasPlug;
        stack.hasPlug = isOn;
        return before;
    }

    // ---- loading and lifting

    public boolean canLoad(int container, int bay, int row) throws IndexOutOfBoundsException {
        Box box = boxNumbered(container);
        Stack stack = stackAt(bay, row);
        if (box == null || stack == null) {
            throw new IndexOutOfBoundsException("no such container, bay or row");
        }
        return isLoadable(box, stack);
    }

    public int load(int container, int bay, int row)
            throws IndexOutOfBoundsException, IllegalStateException {
        Box box = boxNumbered(container);
        Stack stack = stackAt(bay, row);
        if (box == null || stack == null) {
            throw new IndexOutOfBoundsException("no such container, bay or row");
        }
        if (!isLoadable(box, stack)) {
            throw new IllegalStateException("it cannot be loaded there");
        }
        stack.push(box);
        return box.tier;
    }

    public int lift(int bay, int row) throws IndexOutOfBoundsException, IllegalStateException {
        Stack stack = stackAt(bay, row);
        if (stack == null) {
            throw new IndexOutOfBoundsException("no such bay or row");
        }
        Box top = stack.top();
        if (top == null || top.from != shipPort) {
            throw new IllegalStateException("nothing loaded at this port is uppermost there");
        }
        stack.dropTop();
        return numberOf(top);
    }

    public int plan() {
        int loaded = 0;
        // Each turn loads a box, so there are no more turns than boxes.
        for (int turn = 0; turn < MOST_BOXES; turn++) {
            Box box = nextToLoad();
            Stack stack = bestStackFor(box);
            if (stack == null) {
                return loaded;
            }
            stack.push(box);
            loaded++;
        }
        return loaded;
    }

    public int sail() throws IllegalStateException {
        if (shipPort >= LAST_PORT || !isSteady()) {
            throw new IllegalStateException("the ship cannot sail");
        }
        shipPort++;
        int liftedHere = 0;
        for (Stack stack : stacks) {
            if (stack != null) {
                liftedHere += stack.liftsFor(shipPort);
                stack.land(shipPort);
            }
        }
        putBack += liftedHere;
        return liftedHere;
    }

    public int port() {
        return shipPort;
    }

    // ---- what is told

    public int at(int bay, int row, int tier) throws IndexOutOfBoundsException {
        Stack stack = stackAt(bay, row);
        if (stack == null || !isWithin(tier, 0, TIERS - 1)) {
            throw new IndexOutOfBoundsException("no such bay, row or tier");
        }
        return numberOf(stack.onTier(tier));
    }

    public int where(int container) throws IndexOutOfBoundsException {
        Box box = boxNumbered(container);
        if (box == null) {
            throw new IndexOutOfBoundsException("no such container");
        }
        return box.place();
    }

    public int moment(boolean isTrim) {
        int sum = 0;
        for (Stack stack : stacks) {
            if (stack != null) {
                sum += stack.weightSum() * (isTrim ? stack.trimArm() : stack.listArm());
            }
        }
        return sum;
    }

    public double height() {
        int weights = 0;
        int heights = 0;
        for (Box box : boxes) {
            if (box != null && box.stack != null) {
                weights += box.weight;
                heights += box.weight * (2 * box.tier + 1);
            }
        }
        if (weights == 0) {
            return 0.0;
        }
        return (double) heights / (double) weights;
    }

    public boolean isSteady() {
        // height() is 0 without containers on board, which is within the bound too.
        return Math.abs(moment(false)) <= listLimit && Math.abs(moment(true)) <= trimLimit
                && height() <= (double) HIGHEST_STEADY;
    }

    public int count(boolean isWaiting) {
        int found = 0;
        for (Box box : boxes) {
            if (box != null && (isWaiting ? box.waitsAt(shipPort) : box.stack != null)) {
                found++;
            }
        }
        return found;
    }

    public int weight(int bay) throws IndexOutOfBoundsException {
        if (!isWithin(bay, 0, BAYS - 1)) {
            throw new IndexOutOfBoundsException("no such bay");
        }
        int sum = 0;
        for (Stack stack : stacks) {
            if (stack != null && stack.bay == bay) {
                sum += stack.weightSum();
            }
        }
        return sum;
    }

    public int blocked() {
        int found = 0;
        for (Box box : boxes) {
            if (box != null && box.isBlocked()) {
                found++;
            }
        }
        return found;
    }

    public int lifts(int port) throws IndexOutOfBoundsException {
        if (!isWithin(port, 0, LAST_PORT)) {
            throw new IndexOutOfBoundsException("no such port");
        }
        int sum = 0;
        for (Stack stack : stacks) {
            if (stack != null) {
                sum += stack.liftsFor(port);
            }
        }
        return sum;
    }

    public int freePlugs() {
        int free = 0;
        for (Stack stack : stacks) {
            if (stack != null && stack.hasPlug && stack.size < POWERED_TIERS) {
                free += POWERED_TIERS - stack.size;
            }
        }
        return free;
    }

    public int choices(int container) throws IndexOutOfBoundsException {
        Box box = boxNumbered(container);
        if (box == null) {
            throw new IndexOutOfBoundsException("no such container");
        }
        int found = 0;
        for (Stack stack : stacks) {
            if (isLoadable(box, stack)) {
                found++;
            }
        }
        return found;
    }

    public int lifted() {
        return putBack;
    }

    public long digest() {
        long d = mix(DIGEST_START, shipPort);
        d = mix(d, boxCount);
        for (Box box : boxes) {
            if (box != null) {
                d = mixBox(d, box);
            }
        }
        d = mix(mix(mix(d, stackLimit), listLimit), trimLimit);
        for (Stack stack : stacks) {
            if (stack != null) {
                d = mix(d, stack.hasPlug ? 1 : 0);
            }
        }
        return mix(mix(mix(d, moment(false)), moment(true)), putBack);
    }

    // ---- within

    private static boolean isWithin(int number, int least, int most) {
        return number >= least && number <= most;
    }

    private static long mix(long d, long x) {
        return d * 31L + x;
    }

    private static long mixBox(long d, Box box) {
        long mixed = d;
        for (int what = 0; what < QUESTIONS; what++) {
            mixed = mix(mixed, box.tell(what));
        }
        return mix(mixed, box.place());
    }

    /** The box of this number; null if there is none. */
    private Box boxNumbered(int number) {
        if (number < 0 || number >= boxes.length) {
            return null;
        }
        return boxes[number];
    }

    /** The number of this box; -1 if there is none. */
    private static int numberOf(Box box) {
        return box == null ? -1 : box.number;
    }

    /** The stack in this bay and row; null if there is none. */
    private Stack stackAt(int bay, int row) {
        if (!isWithin(bay, 0, BAYS - 1) || !isWithin(row, 0, ROWS - 1)) {
            return null;
        }
        int index = bay * ROWS + row;
        if (index < 0 || index >= stacks.length) {
            return null;
        }
        return stacks[index];
    }

    private boolean isLoadable(Box box, Stack stack) {
        return box != null && stack != null
                && box.waitsAt(shipPort)
                && stack.size < TIERS
                && stack.weightSum() + box.weight <= stackLimit
                && (box.kind != REEFER || stack.hasPowerOnNextTier())
                && isApartFromOthers(box, stack);
    }

    private boolean isApartFromOthers(Box box, Stack stack) {
        if (!box.isDangerous()) {
            return true;
        }
        for (Box other : boxes) {
            if (other != null && other.stack != null && other.isDangerous()
                    && other.kind != box.kind && !other.stack.isApartFrom(stack)) {
                return false;
            }
        }
        return true;
    }

    /** Of the boxes that can be loaded somewhere, the one that plan() takes first; or null. */
    private Box nextToLoad() {
        Box first = null;
        for (Box box : boxes) {
            if (box != null && (first == null || box.goesBefore(first)) && hasChoice(box)) {
                first = box;
            }
        }
        return first;
    }

    private boolean hasChoice(Box box) {
        for (Stack stack : stacks) {
            if (isLoadable(box, stack)) {
                return true;
            }
        }
        return false;
    }

    /** The stack on which plan() puts this box; null if there is none. */
    private Stack bestStackFor(Box box) {
        if (box == null) {
            return null;
        }
        int list = moment(false);
        int trim = moment(true);
        Stack best = null;
        int bestEarlier = 0;
        int bestList = 0;
        int bestTrim = 0;
        // The stacks stand in the order of bays and rows, so of equals the first one stays.
        for (Stack stack : stacks) {
            if (stack != null && isLoadable(box, stack)) {
                int earlier = stack.countLandedBefore(box.to);
                int newList = Math.abs(list + box.weight * stack.listArm());
                int newTrim = Math.abs(trim + box.weight * stack.trimArm());
                if (best == null || earlier < bestEarlier || earlier == bestEarlier
                        && (newList < bestList || newList == bestList && newTrim < bestTrim)) {
                    best = stack;
                    bestEarlier = earlier;
                    bestList = newList;
                    bestTrim = newTrim;
                }
            }
        }
        return best;
    }

    /** A container. */
    private static final class Box {
        final int number;
        final int weight;
        final int from;
        final int to;
        final int kind;
        boolean isLanded = false;
        /** The stack where it stands; null if it is not on board. */
        Stack stack = null;
        int tier = 0;

        Box(int number, int weight, int from, int to, int kind) {
            this.number = number;
            this.weight = weight;
            this.from = from;
            this.to = to;
            this.kind = kind;
        }

        int tell(int what) {
            switch (what) {
                case 0:
                    return weight;
                case 1:
                    return from;
                case 2:
                    return to;
                case 3:
                    return kind;
                default:
                    return state();
            }
        }

        int state() {
            if (isLanded) {
                return LANDED;
            }
            return stack != null ? ON_BOARD : WAITING;
        }

        boolean waitsAt(int port) {
            return state() == WAITING && from == port;
        }

        boolean isDangerous() {
            return kind >= FIRST_DANGEROUS;
        }

        int place() {
            return stack == null ? -1 : 100 * stack.bay + 10 * stack.row + tier;
        }

        boolean isBlocked() {
            return stack != null && stack.hasLaterAbove(tier, to);
        }

        boolean goesBefore(Box other) {
            return to > other.to || to == other.to && weight > other.weight;
        }
    }

    /** A bay and row with the boxes that stand there, from below; empty tiers hold null. */
    private static final class Stack {
        final int bay;
        final int row;
        final Box[] boxes = new Box[TIERS];
        int size = 0;
        boolean hasPlug;

        Stack(int bay, int row, boolean hasPlug) {
            this.bay = bay;
            this.row = row;
            this.hasPlug = hasPlug;
        }

        int listArm() {
            return row - 2;
        }

        int trimArm() {
            return 2 * bay - 5;
        }

        boolean isApartFrom(Stack other) {
            int bays = Math.abs(bay - other.bay);
            return bays >= 2 || bays == 1 && Math.abs(row - other.row) >= 2;
        }

        boolean hasPowerOnNextTier() {
            return hasPlug && size < POWERED_TIERS;
        }

        /** The box on this tier; null if there is none. */
        Box onTier(int tier) {
            if (tier < 0 || tier >= boxes.length) {
                return null;
            }
            return boxes[tier];
        }

        Box top() {
            return onTier(size - 1);
        }

        void push(Box box) {
            if (box == null || size < 0 || size >= boxes.length) {
                return;
            }
            boxes[size] = box;
            box.stack = this;
            box.tier = size;
            size++;
        }

        void dropTop() {
            int tier = size - 1;
            Box box = onTier(tier);
            if (box == null || tier < 0 || tier >= boxes.length) {
                return;
            }
            boxes[tier] = null;
            box.stack = null;
            size = tier;
        }

        /** Lands the boxes for this port; those above come down in their order. */
        void land(int port) {
            size = 0;
            for (int tier = 0; tier < boxes.length; tier++) {
                Box box = boxes[tier];
                boxes[tier] = null;
                if (box != null && box.to == port) {
                    box.stack = null;
                    box.isLanded = true;
                } else if (box != null) {
                    push(box);
                }
            }
        }

        int weightSum() {
            int sum = 0;
            for (Box box : boxes) {
                if (box != null) {
                    sum += box.weight;
                }
            }
            return sum;
        }

        boolean hasReefer() {
            for (Box box : boxes) {
                if (box != null && box.kind == REEFER) {
                    return true;
                }
            }
            return false;
        }

        int countLandedBefore(int port) {
            int found = 0;
            for (Box box : boxes) {
                if (box != null && box.to < port) {
                    found++;
                }
            }
            return found;
        }

        boolean hasLaterAbove(int tier, int port) {
            for (Box box : boxes) {
                if (box != null && box.tier > tier && box.to > port) {
                    return true;
                }
            }
            return false;
        }

        /** How many boxes for other ports stand above the lowest one for this port. */
        int liftsFor(int port) {
            int found = 0;
            boolean isAboveOne = false;
            for (Box box : boxes) {
                if (box != null && box.to == port) {
                    isAboveOne = true;
                } else if (box != null && isAboveOne) {
                    found++;
                }
            }
            return found;
        }
    }
}
