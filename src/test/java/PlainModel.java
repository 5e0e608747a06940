import java.util.ArrayList;
import java.util.Comparator;
import java.util.List;

/**
 * A second reading of the document, written in another form than the class: a list of numbers for
 * each stack and nothing kept that can be told from it. Every answer is a text; an exception is
 * the text "throws." with its name.
 */
final class PlainModel {
    static final String INDEX = "throws.IndexOutOfBoundsException";
    static final String ARGUMENT = "throws.IllegalArgumentException";
    static final String STATE = "throws.IllegalStateException";

    private record Cargo(int weight, int from, int to, int kind) {
    }

    private record Place(int earlier, int list, int trim, int bay, int row) {
    }

    private final List<Cargo> cargo = new ArrayList<>();
    private final List<List<List<Integer>>> ship = new ArrayList<>();
    private final boolean[][] plugs = new boolean[6][5];
    private final boolean[] landed = new boolean[40];
    private int port = 0;
    private int stackLimit = 60;
    private int listLimit = 60;
    private int trimLimit = 200;
    private int lifted = 0;

    PlainModel() {
        for (int bay = 0; bay < 6; bay++) {
            ship.add(new ArrayList<>());
            for (int row = 0; row < 5; row++) {
                ship.get(bay).add(new ArrayList<>());
                plugs[bay][row] = bay == 2 || bay == 3;
            }
        }
    }

    int port() {
        return port;
    }

    String call(String name, int a, int b, int c, int d) {
        switch (name) {
            case "addContainer": return addContainer(a, b, c, d);
            case "container": return isCargo(a) && b >= 0 && b <= 4 ? "" + told(a, b) : INDEX;
            case "setLimits": return setLimits(a, b, c);
            case "setPlug": return setPlug(a, b, (c & 1) == 1);
            case "canLoad": return isCargo(a) && isStack(b, c) ? "" + canLoad(a, b, c) : INDEX;
            case "load": return load(a, b, c);
            case "lift": return lift(a, b);
            case "plan": return "" + plan();
            case "sail": return sail();
            case "port": return "" + port;
            case "at": return isStack(a, b) && c >= 0 && c < 4 ? "" + at(a, b, c) : INDEX;
            case "where": return isCargo(a) ? "" + where(a) : INDEX;
            case "moment": return "" + ((a & 1) == 1 ? trim() : list());
            case "height": return "" + height();
            case "isSteady": return "" + isSteady();
            case "count": return "" + count((a & 1) == 1);
            case "weight": return a >= 0 && a < 6 ? "" + bayWeight(a) : INDEX;
            case "blocked": return "" + blocked();
            case "lifts": return a >= 0 && a < 6 ? "" + lifts(a) : INDEX;
            case "freePlugs": return "" + freePlugs();
            case "choices": return isCargo(a) ? "" + choices(a) : INDEX;
            case "lifted": return "" + lifted;
            case "digest": return "" + digest();
            default: throw new AssertionError(name);
        }
    }

    private boolean isCargo(int number) {
        return number >= 0 && number < cargo.size();
    }

    private static boolean isStack(int bay, int row) {
        return bay >= 0 && bay < 6 && row >= 0 && row < 5;
    }

    private List<Integer> stack(int bay, int row) {
        return ship.get(bay).get(row);
    }

    private String addContainer(int weight, int from, int to, int kind) {
        if (weight < 1 || weight > 30 || from < 0 || from > 4 || to <= from || to > 5 || kind < 0 || kind > 4) {
            return ARGUMENT;
        }
        if (from < port || cargo.size() == 40) {
            return STATE;
        }
        cargo.add(new Cargo(weight, from, to, kind));
        return "" + (cargo.size() - 1);
    }

    private int told(int number, int what) {
        Cargo c = cargo.get(number);
        int state = landed[number] ? 2 : where(number) >= 0 ? 1 : 0;
        return new int[] {c.weight, c.from, c.to, c.kind, state}[what];
    }

    private String setLimits(int stack, int list, int trim) {
        if (stack < 1 || stack > 120 || list < 0 || list > 1000 || trim < 0 || trim > 1000) {
            return ARGUMENT;
        }
        int before = stackLimit;
        stackLimit = stack;
        listLimit = list;
        trimLimit = trim;
        return "" + before;
    }

    private String setPlug(int bay, int row, boolean isOn) {
        if (!isStack(bay, row)) {
            return INDEX;
        }
        if (!isOn && stack(bay, row).stream().anyMatch(n -> cargo.get(n).kind == 1)) {
            return STATE;
        }
        boolean before = plugs[bay][row];
        plugs[bay][row] = isOn;
        return "" + before;
    }

    private boolean canLoad(int number, int bay, int row) {
        Cargo c = cargo.get(number);
        List<Integer> stack = stack(bay, row);
        boolean isHere = !landed[number] && where(number) < 0 && c.from == port;
        int sum = c.weight + stack.stream().mapToInt(n -> cargo.get(n).weight).sum();
        boolean isFed = c.kind != 1 || plugs[bay][row] && stack.size() <= 1;
        return isHere && stack.size() < 4 && sum <= stackLimit && isFed && (c.kind < 2 || isApart(c.kind, bay, row));
    }

    private boolean isApart(int kind, int bay, int row) {
        for (int n = 0; n < cargo.size(); n++) {
            int place = where(n);
            int other = cargo.get(n).kind;
            if (place >= 0 && other >= 2 && other != kind) {
                int bays = Math.abs(place / 100 - bay);
                int rows = Math.abs(place / 10 % 10 - row);
                if (bays == 0 || bays == 1 && rows < 2) {
                    return false;
                }
            }
        }
        return true;
    }

    private String load(int number, int bay, int row) {
        if (!isCargo(number) || !isStack(bay, row)) {
            return INDEX;
        }
        if (!canLoad(number, bay, row)) {
            return STATE;
        }
        stack(bay, row).add(number);
        return "" + (stack(bay, row).size() - 1);
    }

    private String lift(int bay, int row) {
        if (!isStack(bay, row)) {
            return INDEX;
        }
        List<Integer> stack = stack(bay, row);
        if (stack.isEmpty() || cargo.get(stack.get(stack.size() - 1)).from != port) {
            return STATE;
        }
        return "" + stack.remove(stack.size() - 1);
    }

    private int plan() {
        int loaded = 0;
        while (true) {
            List<Integer> able = new ArrayList<>();
            for (int n = 0; n < cargo.size(); n++) {
                if (choices(n) > 0) {
                    able.add(n);
                }
            }
            if (able.isEmpty()) {
                return loaded;
            }
            able.sort(Comparator.<Integer>comparingInt(n -> -cargo.get(n).to)
                    .thenComparingInt(n -> -cargo.get(n).weight).thenComparingInt(n -> n));
            planOne(able.get(0));
            loaded++;
        }
    }

    private void planOne(int number) {
        Cargo c = cargo.get(number);
        List<Place> places = new ArrayList<>();
        for (int bay = 0; bay < 6; bay++) {
            for (int row = 0; row < 5; row++) {
                if (canLoad(number, bay, row)) {
                    int earlier = (int) stack(bay, row).stream().filter(n -> cargo.get(n).to < c.to).count();
                    stack(bay, row).add(number);
                    places.add(new Place(earlier, Math.abs(list()), Math.abs(trim()), bay, row));
                    stack(bay, row).remove(stack(bay, row).size() - 1);
                }
            }
        }
        places.sort(Comparator.comparingInt(Place::earlier).thenComparingInt(Place::list)
                .thenComparingInt(Place::trim).thenComparingInt(Place::bay).thenComparingInt(Place::row));
        stack(places.get(0).bay, places.get(0).row).add(number);
    }

    private String sail() {
        if (port == 5 || !isSteady()) {
            return STATE;
        }
        port++;
        int here = lifts(port);
        for (List<List<Integer>> bay : ship) {
            for (List<Integer> stack : bay) {
                stack.stream().filter(n -> cargo.get(n).to == port).forEach(n -> landed[n] = true);
                stack.removeIf(n -> cargo.get(n).to == port);
            }
        }
        lifted += here;
        return "" + here;
    }

    private int at(int bay, int row, int tier) {
        return tier < stack(bay, row).size() ? stack(bay, row).get(tier) : -1;
    }

    private int where(int number) {
        for (int bay = 0; bay < 6; bay++) {
            for (int row = 0; row < 5; row++) {
                int tier = stack(bay, row).indexOf(number);
                if (tier >= 0) {
                    return bay * 100 + row * 10 + tier;
                }
            }
        }
        return -1;
    }

    private int list() {
        int sum = 0;
        for (int n = 0; n < cargo.size(); n++) {
            sum += where(n) < 0 ? 0 : cargo.get(n).weight * (where(n) / 10 % 10 - 2);
        }
        return sum;
    }

    private int trim() {
        int sum = 0;
        for (int n = 0; n < cargo.size(); n++) {
            sum += where(n) < 0 ? 0 : cargo.get(n).weight * (where(n) / 100 * 2 - 5);
        }
        return sum;
    }

    private double height() {
        double above = 0;
        double sum = 0;
        for (int n = 0; n < cargo.size(); n++) {
            if (where(n) >= 0) {
                above += cargo.get(n).weight * (where(n) % 10 * 2 + 1);
                sum += cargo.get(n).weight;
            }
        }
        return sum == 0 ? 0.0 : above / sum;
    }

    private boolean isSteady() {
        return list() <= listLimit && -list() <= listLimit && trim() <= trimLimit && -trim() <= trimLimit
                && (count(false) == 0 || height() <= 5);
    }

    private int count(boolean isWaiting) {
        int found = 0;
        for (int n = 0; n < cargo.size(); n++) {
            boolean isOnBoard = where(n) >= 0;
            if (isWaiting ? !isOnBoard && !landed[n] && cargo.get(n).from == port : isOnBoard) {
                found++;
            }
        }
        return found;
    }

    private int bayWeight(int bay) {
        return ship.get(bay).stream().flatMap(List::stream).mapToInt(n -> cargo.get(n).weight).sum();
    }

    private int blocked() {
        int found = 0;
        for (List<List<Integer>> bay : ship) {
            for (List<Integer> stack : bay) {
                for (int tier = 0; tier < stack.size(); tier++) {
                    int to = cargo.get(stack.get(tier)).to;
                    if (stack.subList(tier + 1, stack.size()).stream().anyMatch(n -> cargo.get(n).to > to)) {
                        found++;
                    }
                }
            }
        }
        return found;
    }

    private int lifts(int at) {
        int found = 0;
        for (List<List<Integer>> bay : ship) {
            for (List<Integer> stack : bay) {
                int lowest = 0;
                while (lowest < stack.size() && cargo.get(stack.get(lowest)).to != at) {
                    lowest++;
                }
                found += stack.subList(lowest, stack.size()).stream().filter(n -> cargo.get(n).to != at).count();
            }
        }
        return found;
    }

    private int freePlugs() {
        int free = 0;
        for (int bay = 0; bay < 6; bay++) {
            for (int row = 0; row < 5; row++) {
                for (int tier = 0; tier < 2; tier++) {
                    if (plugs[bay][row] && at(bay, row, tier) < 0) {
                        free++;
                    }
                }
            }
        }
        return free;
    }

    private int choices(int number) {
        int found = 0;
        for (int bay = 0; bay < 6; bay++) {
            for (int row = 0; row < 5; row++) {
                found += canLoad(number, bay, row) ? 1 : 0;
            }
        }
        return found;
    }

    private long digest() {
        List<Integer> numbers = new ArrayList<>(List.of(port, cargo.size()));
        for (int n = 0; n < cargo.size(); n++) {
            for (int what = 0; what < 5; what++) {
                numbers.add(told(n, what));
            }
            numbers.add(where(n));
        }
        numbers.addAll(List.of(stackLimit, listLimit, trimLimit));
        for (boolean[] bay : plugs) {
            for (boolean hasPlug : bay) {
                numbers.add(hasPlug ? 1 : 0);
            }
        }
        numbers.addAll(List.of(list(), trim(), lifted));
        long d = 283;
        for (int x : numbers) {
            d = d * 31 + x;
        }
        return d;
    }
}
