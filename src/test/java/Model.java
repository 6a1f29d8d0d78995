import java.math.BigInteger;
import java.util.ArrayDeque;
import java.util.ArrayList;
import java.util.Arrays;
import java.util.HashSet;
import java.util.LinkedHashMap;
import java.util.List;
import java.util.Map;
import java.util.NoSuchElementException;
import java.util.Set;
import java.util.TreeMap;
import java.util.TreeSet;
import java.util.regex.Matcher;
import java.util.regex.Pattern;

/** The document once more, with the Java library and by other ways than the class: slow and plain. */
final class Model {
    private static final String STATEMENT =
            "u\\d{1,2}/\\d{1,2}(@\\d!?)?|b\\d{1,2}-\\d{1,2}:\\d|o\\d{1,2}:\\d";
    private static final Pattern TEXT = Pattern.compile("(" + STATEMENT + ")(;(" + STATEMENT + "))*");

    private record Unit(int population, int area, int community, boolean isCore, int outer) {
    }

    /** A plan is a list of the districts of the units; null is no plan. */
    private record State(List<Unit> units, Map<Set<Integer>, Integer> borders, int districts, int tolerance,
            List<Integer> plan) {
    }

    private record Reason(int number, int detail) {
    }

    private record Fraction(BigInteger top, BigInteger bottom) {
        static Fraction of(long top, long bottom) {
            BigInteger a = BigInteger.valueOf(top);
            BigInteger b = BigInteger.valueOf(bottom);
            BigInteger divisor = a.gcd(b);
            return new Fraction(a.divide(divisor), b.divide(divisor));
        }

        int compare(Fraction other) {
            return top.multiply(other.bottom).compareTo(other.top.multiply(bottom));
        }
    }

    private String input = "";
    private Integer impossible = null;
    private Reason kept = null;
    private State now = new State(List.of(), Map.of(), 2, 10, null);
    private State snapshot = null;
    private final ArrayDeque<State> past = new ArrayDeque<>();
    private final Object[] rows = new Object[3];

    private void become(State next) {
        past.addLast(now);
        if (past.size() > 8) {
            past.removeFirst();
        }
        now = next;
    }

    private static State withPlan(State s, List<Integer> plan) {
        return new State(s.units, s.borders, s.districts, s.tolerance, plan);
    }

    // ---- maps

    int feed(char c) {
        if (input.length() == 80) {
            throw new IllegalStateException();
        }
        input += c;
        return input.length();
    }

    int extend() {
        String text = input;
        input = "";
        int fault = fault(text);
        if (fault >= 0) {
            return -100 - fault;
        }
        List<Unit> units = new ArrayList<>(now.units);
        Map<Set<Integer>, Integer> borders = new LinkedHashMap<>(now.borders);
        String[] statements = text.split(";");
        for (int i = 0; i < statements.length; i++) {
            if (!carryOut(statements[i], units, borders)) {
                impossible = i;
                throw new UnsupportedOperationException();
            }
        }
        become(new State(List.copyOf(units), Map.copyOf(borders), now.districts, now.tolerance, null));
        return units.size();
    }

    private static int fault(String text) {
        for (int end = 1; end <= text.length(); end++) {
            Matcher matcher = TEXT.matcher(text.substring(0, end));
            if (!matcher.matches() && !matcher.hitEnd()) {
                return end - 1;
            }
        }
        return TEXT.matcher(text).matches() ? -1 : text.length();
    }

    private static boolean carryOut(String statement, List<Unit> units, Map<Set<Integer>, Integer> borders) {
        String[] parts = statement.substring(1).split("[-/:@!]");
        int a = Integer.parseInt(parts[0]);
        int b = Integer.parseInt(parts[1]);
        if (statement.startsWith("u")) {
            int community = parts.length > 2 ? Integer.parseInt(parts[2]) : -1;
            if (units.size() == 12 || a == 0 || b == 0 || community > 3) {
                return false;
            }
            units.add(new Unit(a, b, community, statement.endsWith("!"), 0));
            return true;
        }
        if (statement.startsWith("o")) {
            if (a >= units.size()) {
                return false;
            }
            Unit u = units.get(a);
            units.set(a, new Unit(u.population, u.area, u.community, u.isCore, b));
            return true;
        }
        int length = Integer.parseInt(parts[2]);
        if (a >= units.size() || b >= units.size() || a == b) {
            return false;
        }
        if (length == 0) {
            return borders.remove(Set.of(a, b)) != null;
        }
        borders.put(Set.of(a, b), length);
        return true;
    }

    int impossible() {
        if (impossible == null) {
            throw new NoSuchElementException();
        }
        return impossible;
    }

    int clearMap() {
        int had = now.units.size();
        become(new State(List.of(), Map.of(), now.districts, now.tolerance, null));
        return had;
    }

    private void needUnit(int unit) {
        if (unit < 0 || unit >= now.units.size()) {
            throw new IndexOutOfBoundsException();
        }
    }

    private void needDistrict(int district) {
        if (district < 0 || district >= now.districts) {
            throw new IndexOutOfBoundsException();
        }
    }

    private void needPlan() {
        if (now.plan == null) {
            throw new IllegalStateException();
        }
    }

    private static void needKnown(int what, int most) {
        if (what < 0 || what > most) {
            throw new IllegalArgumentException();
        }
    }

    private int length(int a, int b) {
        return a == b ? 0 : now.borders.getOrDefault(Set.of(a, b), 0);
    }

    private static int bits(Iterable<Integer> numbers) {
        int set = 0;
        for (int number : numbers) {
            set |= 1 << number;
        }
        return set;
    }

    private Set<Integer> neighbors(int unit) {
        Set<Integer> found = new TreeSet<>();
        for (int v = 0; v < now.units.size(); v++) {
            if (length(unit, v) > 0) {
                found.add(v);
            }
        }
        return found;
    }

    int unit(int unit, int what) {
        needUnit(unit);
        needKnown(what, 7);
        Unit u = now.units.get(unit);
        int own = now.plan == null ? -1 : now.plan.get(unit);
        boolean isAtEdge = now.plan != null && neighbors(unit).stream().anyMatch(v -> now.plan.get(v) != own);
        return new int[] {u.population, u.area, u.community, u.isCore ? 1 : 0, u.outer, bits(neighbors(unit)), own,
            isAtEdge ? 1 : 0}[what];
    }

    int border(int unit, int other) {
        needUnit(unit);
        needUnit(other);
        return length(unit, other);
    }

    int count(int what) {
        needKnown(what, 9);
        return switch (what) {
            case 0 -> now.units.size();
            case 1 -> now.borders.size();
            case 2 -> now.units.stream().mapToInt(Unit::population).sum();
            case 3 -> now.units.stream().mapToInt(Unit::area).sum();
            case 4 -> now.districts;
            case 5 -> now.tolerance;
            case 6 -> now.plan == null ? 0 : 1;
            case 7 -> parts(all());
            case 8 -> communities(all());
            default -> input.length();
        };
    }

    private Set<Integer> all() {
        Set<Integer> all = new TreeSet<>();
        for (int u = 0; u < now.units.size(); u++) {
            all.add(u);
        }
        return all;
    }

    /** The number of parts of a set, by joining the labels of neighbors. */
    private int parts(Set<Integer> set) {
        Map<Integer, Integer> labels = new TreeMap<>();
        for (int u : set) {
            labels.put(u, u);
        }
        for (Set<Integer> pair : now.borders.keySet()) {
            if (set.containsAll(pair)) {
                List<Integer> ends = new ArrayList<>(pair);
                int one = labels.get(ends.get(0));
                int other = labels.get(ends.get(1));
                labels.replaceAll((u, label) -> label == one ? other : label);
            }
        }
        return new HashSet<>(labels.values()).size();
    }

    private int communities(Set<Integer> set) {
        Set<Integer> found = new HashSet<>();
        for (int u : set) {
            found.add(now.units.get(u).community);
        }
        found.remove(-1);
        return found.size();
    }

    // ---- plans

    int setDistricts(int districts) {
        if (districts < 2 || districts > 4) {
            throw new IllegalArgumentException();
        }
        int previous = now.districts;
        become(new State(now.units, now.borders, districts, now.tolerance, null));
        return previous;
    }

    int setTolerance(int tolerance) {
        needKnown(tolerance, 99);
        int previous = now.tolerance;
        become(new State(now.units, now.borders, now.districts, tolerance, null));
        return previous;
    }

    int readPlan() {
        String text = input;
        input = "";
        if (now.units.isEmpty()) {
            throw new IllegalStateException();
        }
        List<Integer> plan = new ArrayList<>();
        for (int i = 0; i < text.length(); i++) {
            int district = Math.max("ABCD".indexOf(text.charAt(i)), "abcd".indexOf(text.charAt(i)));
            if (i >= now.units.size() || district < 0 || district >= now.districts) {
                return -100 - i;
            }
            plan.add(district);
        }
        if (plan.size() < now.units.size()) {
            return -100 - text.length();
        }
        Reason reason = judge(plan);
        if (reason != null) {
            kept = reason;
            return reason.number;
        }
        become(withPlan(now, plan));
        return 0;
    }

    private static Set<Integer> members(List<Integer> plan, int district) {
        Set<Integer> found = new TreeSet<>();
        for (int u = 0; u < plan.size(); u++) {
            if (plan.get(u) == district) {
                found.add(u);
            }
        }
        return found;
    }

    private int people(List<Integer> plan, int district) {
        return members(plan, district).stream().mapToInt(u -> now.units.get(u).population).sum();
    }

    private int imbalance(List<Integer> plan, int district) {
        return Math.abs(people(plan, district) * now.districts - count(2));
    }

    private Reason judge(List<Integer> plan) {
        for (int d = 0; d < now.districts; d++) {
            if (!plan.contains(d)) {
                return new Reason(1, d);
            }
        }
        for (int d = 0; d < now.districts; d++) {
            if (parts(members(plan, d)) > 1) {
                return new Reason(2, d);
            }
        }
        for (int c = 0; c < 4; c++) {
            if (homes(plan, c, true) > 1) {
                return new Reason(3, c);
            }
        }
        for (int d = 0; d < now.districts; d++) {
            if (100 * imbalance(plan, d) > now.tolerance * count(2)) {
                return new Reason(4, d);
            }
        }
        return null;
    }

    /** The number of districts in which a community has units, or core units. */
    private int homes(List<Integer> plan, int community, boolean isCore) {
        Set<Integer> homes = new HashSet<>();
        for (int u = 0; u < plan.size(); u++) {
            Unit unit = now.units.get(u);
            if (unit.community == community && (unit.isCore || !isCore)) {
                homes.add(plan.get(u));
            }
        }
        return homes.size();
    }

    private boolean isNear(int unit, int district) {
        return neighbors(unit).stream().anyMatch(v -> now.plan.get(v) == district);
    }

    private Reason judgeMove(int unit, int district) {
        return isNear(unit, district) ? judge(moved(unit, district)) : new Reason(5, unit);
    }

    private List<Integer> moved(int unit, int district) {
        List<Integer> plan = new ArrayList<>(now.plan);
        plan.set(unit, district);
        return plan;
    }

    private Reason judgeSwap(int unit, int other) {
        if (!isNear(unit, now.plan.get(other))) {
            return new Reason(5, unit);
        }
        if (!isNear(other, now.plan.get(unit))) {
            return new Reason(5, other);
        }
        return judge(swapped(unit, other));
    }

    private List<Integer> swapped(int unit, int other) {
        List<Integer> plan = new ArrayList<>(now.plan);
        plan.set(unit, now.plan.get(other));
        plan.set(other, now.plan.get(unit));
        return plan;
    }

    private void needMove(int unit, int district) {
        needUnit(unit);
        needDistrict(district);
        needPlan();
        if (now.plan.get(unit) == district) {
            throw new IllegalArgumentException();
        }
    }

    int move(int unit, int district) {
        needMove(unit, district);
        Reason reason = judgeMove(unit, district);
        if (reason != null) {
            kept = reason;
            throw new UnsupportedOperationException();
        }
        int previous = now.plan.get(unit);
        become(withPlan(now, moved(unit, district)));
        return previous;
    }

    int swap(int unit, int other) {
        needUnit(unit);
        needUnit(other);
        needPlan();
        if (now.plan.get(unit).equals(now.plan.get(other))) {
            throw new IllegalArgumentException();
        }
        Reason reason = judgeSwap(unit, other);
        if (reason != null) {
            kept = reason;
            throw new UnsupportedOperationException();
        }
        int previous = now.plan.get(unit);
        become(withPlan(now, swapped(unit, other)));
        return previous;
    }

    int refuses(int unit, int district) {
        needMove(unit, district);
        Reason reason = judgeMove(unit, district);
        return reason == null ? 0 : reason.number;
    }

    int refusal(boolean isDetail) {
        if (kept == null) {
            throw new NoSuchElementException();
        }
        return isDetail ? kept.detail : kept.number;
    }

    private int area(List<Integer> plan, int district) {
        return members(plan, district).stream().mapToInt(u -> now.units.get(u).area).sum();
    }

    private int perimeter(List<Integer> plan, int district) {
        int sum = members(plan, district).stream().mapToInt(u -> now.units.get(u).outer).sum();
        for (Map.Entry<Set<Integer>, Integer> border : now.borders.entrySet()) {
            long inside = border.getKey().stream().filter(u -> plan.get(u) == district).count();
            sum += inside == 1 ? border.getValue() : 0;
        }
        return sum;
    }

    int district(int district, int what) {
        needDistrict(district);
        needKnown(what, 6);
        needPlan();
        Set<Integer> units = members(now.plan, district);
        return switch (what) {
            case 0 -> units.size();
            case 1 -> bits(units);
            case 2 -> people(now.plan, district);
            case 3 -> area(now.plan, district);
            case 4 -> perimeter(now.plan, district);
            case 5 -> around(district);
            default -> communities(units);
        };
    }

    private int around(int district) {
        Set<Integer> found = new HashSet<>();
        for (Set<Integer> pair : now.borders.keySet()) {
            Set<Integer> ends = new HashSet<>();
            pair.forEach(u -> ends.add(now.plan.get(u)));
            if (ends.contains(district)) {
                found.addAll(ends);
            }
        }
        found.remove(district);
        return bits(found);
    }

    // ---- measures

    private Fraction weigh(List<Integer> plan, int measure) {
        if (measure == 0) {
            Fraction least = null;
            for (int d = 0; d < now.districts; d++) {
                long side = perimeter(plan, d);
                Fraction f = side == 0 ? Fraction.of(0, 1) : Fraction.of(16L * area(plan, d), side * side);
                least = least == null || f.compare(least) < 0 ? f : least;
            }
            return least;
        }
        if (measure == 1) {
            int twice = 0;
            for (int d = 0; d < now.districts; d++) {
                twice += perimeter(plan, d);
            }
            int outer = now.units.stream().mapToInt(Unit::outer).sum();
            return Fraction.of((twice - outer) / 2, 1);
        }
        if (measure == 2) {
            int sum = 0;
            for (int c = 0; c < 4; c++) {
                sum += homes(plan, c, false) > 1 ? 1 : 0;
            }
            return Fraction.of(sum, 1);
        }
        int greatest = 0;
        for (int d = 0; d < now.districts; d++) {
            greatest = Math.max(greatest, imbalance(plan, d));
        }
        return Fraction.of(greatest, count(2));
    }

    private boolean isBetter(List<Integer> plan, List<Integer> other, int measure) {
        int order = weigh(plan, measure).compare(weigh(other, measure));
        return measure == 0 ? order > 0 : order < 0;
    }

    long measure(int measure, boolean isDenominator) {
        needKnown(measure, 3);
        needPlan();
        Fraction fraction = weigh(now.plan, measure);
        return (isDenominator ? fraction.bottom : fraction.top).longValueExact();
    }

    private float rough(int district) {
        float side = perimeter(now.plan, district);
        return side == 0 ? 0f : 16f * area(now.plan, district) / (side * side);
    }

    float meanCompactness() {
        needPlan();
        float sum = 0;
        for (int d = 0; d < now.districts; d++) {
            sum += rough(d);
        }
        return sum / now.districts;
    }

    private List<List<Integer>> changes(boolean isMoves, boolean isSwaps) {
        List<List<Integer>> found = new ArrayList<>();
        for (int u = 0; isMoves && u < now.units.size(); u++) {
            for (int d = 0; d < now.districts; d++) {
                if (now.plan.get(u) != d && judgeMove(u, d) == null) {
                    found.add(moved(u, d));
                }
            }
        }
        for (int u = 0; isSwaps && u < now.units.size(); u++) {
            for (int v = u + 1; v < now.units.size(); v++) {
                if (!now.plan.get(u).equals(now.plan.get(v)) && judgeSwap(u, v) == null) {
                    found.add(swapped(u, v));
                }
            }
        }
        return found;
    }

    private List<Integer> firstBest(List<List<Integer>> plans, int measure) {
        for (List<Integer> plan : plans) {
            if (plans.stream().noneMatch(other -> isBetter(other, plan, measure))) {
                return plan;
            }
        }
        return null;
    }

    int improve(int measure) {
        needKnown(measure, 3);
        needPlan();
        become(now);
        for (int steps = 0; steps < 20; steps++) {
            List<Integer> next = firstBest(changes(true, true), measure);
            if (next == null || !isBetter(next, now.plan, measure)) {
                return steps;
            }
            now = withPlan(now, next);
        }
        return 20;
    }

    int possible(boolean isSwaps) {
        needPlan();
        return changes(!isSwaps, isSwaps).size();
    }

    // ---- all plans

    private State listedFor = null;
    private List<List<Integer>> listed = null;

    private List<List<Integer>> list() {
        if (now.units.isEmpty() || now.units.size() > 9) {
            throw new IllegalStateException();
        }
        State plain = withPlan(now, null);
        if (!plain.equals(listedFor)) {
            listedFor = plain;
            listed = new ArrayList<>();
            int size = now.units.size();
            long most = Math.round(Math.pow(now.districts, size));
            for (long number = 0; number < most; number++) {
                Integer[] plan = new Integer[size];
                long rest = number;
                for (int u = size - 1; u >= 0; u--) {
                    plan[u] = (int) (rest % now.districts);
                    rest /= now.districts;
                }
                if (isNumbered(plan) && judge(Arrays.asList(plan)) == null) {
                    listed.add(List.of(plan));
                }
            }
        }
        return listed;
    }

    private static boolean isNumbered(Integer[] plan) {
        int used = 0;
        for (int district : plan) {
            if (district > used) {
                return false;
            }
            used = Math.max(used, district + 1);
        }
        return true;
    }

    int plans() {
        return list().size();
    }

    int counted() {
        return list().size();
    }

    private void needListed(int plan) {
        if (plan < 0 || plan >= list().size()) {
            throw new NoSuchElementException();
        }
    }

    int planned(int plan, int unit) {
        list();
        needUnit(unit);
        needListed(plan);
        return list().get(plan).get(unit);
    }

    int best(int measure) {
        needKnown(measure, 3);
        List<List<Integer>> plans = list();
        needListed(0);
        int best = 0;
        for (int i = plans.size() - 1; i >= 0; i--) {
            if (i == plans.size() - 1 || !isBetter(plans.get(best), plans.get(i), measure)) {
                best = i;
            }
        }
        return best;
    }

    int choose(int plan) {
        list();
        needListed(plan);
        List<Integer> next = list().get(plan);
        int different = 0;
        for (int u = 0; u < next.size(); u++) {
            different += now.plan != null && now.plan.get(u).equals(next.get(u)) ? 0 : 1;
        }
        become(withPlan(now, next));
        return different;
    }

    // ---- rows

    int store(int row, boolean isExact) {
        if (row < 0 || row > 2) {
            throw new IndexOutOfBoundsException();
        }
        needPlan();
        int[] whole = new int[now.districts];
        float[] rough = new float[now.districts];
        for (int d = 0; d < now.districts; d++) {
            whole[d] = people(now.plan, d);
            rough[d] = rough(d);
        }
        rows[row] = isExact ? whole : rough;
        return now.districts;
    }

    private static int size(Object row) {
        return row instanceof int[] whole ? whole.length : ((float[]) row).length;
    }

    int copyRow(int from, int to, int count) {
        needKnown(from, 2);
        needKnown(to, 2);
        if (rows[from] == null || rows[to] == null) {
            throw new NoSuchElementException();
        }
        if (rows[from].getClass() != rows[to].getClass()) {
            throw new UnsupportedOperationException();
        }
        if (count < 0 || count > size(rows[from]) || count > size(rows[to])) {
            throw new IndexOutOfBoundsException();
        }
        System.arraycopy(rows[from], 0, rows[to], 0, count);
        int sum = 0;
        for (int i = 0; i < size(rows[to]); i++) {
            sum += (int) element(rows[to], i);
        }
        return sum;
    }

    private static float element(Object row, int i) {
        return row instanceof int[] whole ? whole[i] : ((float[]) row)[i];
    }

    int bits(int row, int i) {
        if (row < 0 || row > 2) {
            throw new IndexOutOfBoundsException();
        }
        if (rows[row] == null || i < 0 || i >= size(rows[row])) {
            throw new NoSuchElementException();
        }
        return Float.floatToIntBits(element(rows[row], i));
    }

    // ---- undo, snapshot

    int undo() {
        if (past.isEmpty()) {
            throw new IllegalStateException();
        }
        now = past.removeLast();
        return past.size();
    }

    int saveSnapshot() {
        snapshot = now;
        return now.units.size();
    }

    int restoreSnapshot() {
        if (snapshot == null) {
            throw new IllegalStateException();
        }
        now = snapshot;
        past.clear();
        return now.units.size();
    }

    char letter(int unit) {
        needUnit(unit);
        needPlan();
        return "ABCD".charAt(now.plan.get(unit));
    }
}
