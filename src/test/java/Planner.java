import java.util.ArrayList;
import java.util.Arrays;
import java.util.List;
import java.util.function.Function;

/**
 * A DistrictPlanner that knows the calls made on it. It lets no test go beyond the calls that are promised, and
 * a twin, on which the same calls are made, can be looked at without a call on the object itself.
 */
final class Planner {
    static final int MOST_CALLS = 512;

    private final DistrictPlanner own = new DistrictPlanner();
    private final List<Function<DistrictPlanner, ?>> made = new ArrayList<>();

    private <T> T call(Function<DistrictPlanner, T> call) {
        if (made.size() >= MOST_CALLS) {
            throw new AssertionError("a test makes more than 512 calls on one object");
        }
        made.add(call);
        return call.apply(own);
    }

    int calls() {
        return made.size();
    }

    Planner twin() {
        Planner twin = new Planner();
        for (Function<DistrictPlanner, ?> call : made) {
            Check.outcome(() -> twin.call(call));
        }
        return twin;
    }

    // ---- the face

    int feed(char character) {
        return call(p -> p.feed(character));
    }

    int extend() {
        return call(p -> p.extend());
    }

    int impossible() {
        return call(p -> p.impossible());
    }

    int clearMap() {
        return call(p -> p.clearMap());
    }

    int unit(int unit, int what) {
        return call(p -> p.unit(unit, what));
    }

    int border(int unit, int other) {
        return call(p -> p.border(unit, other));
    }

    int count(int what) {
        return call(p -> p.count(what));
    }

    int setDistricts(int districts) {
        return call(p -> p.setDistricts(districts));
    }

    int setTolerance(int tolerance) {
        return call(p -> p.setTolerance(tolerance));
    }

    int readPlan() {
        return call(p -> p.readPlan());
    }

    int move(int unit, int district) {
        return call(p -> p.move(unit, district));
    }

    int swap(int unit, int other) {
        return call(p -> p.swap(unit, other));
    }

    int refuses(int unit, int district) {
        return call(p -> p.refuses(unit, district));
    }

    int refusal(boolean isDetail) {
        return call(p -> p.refusal(isDetail));
    }

    int district(int district, int what) {
        return call(p -> p.district(district, what));
    }

    long measure(int measure, boolean isDenominator) {
        return call(p -> p.measure(measure, isDenominator));
    }

    float meanCompactness() {
        return call(p -> p.meanCompactness());
    }

    int improve(int measure) {
        return call(p -> p.improve(measure));
    }

    int possible(boolean isSwaps) {
        return call(p -> p.possible(isSwaps));
    }

    int plans() {
        return call(p -> p.plans());
    }

    int counted() {
        return call(p -> p.counted());
    }

    int planned(int plan, int unit) {
        return call(p -> p.planned(plan, unit));
    }

    int best(int measure) {
        return call(p -> p.best(measure));
    }

    int choose(int plan) {
        return call(p -> p.choose(plan));
    }

    int store(int row, boolean isExact) {
        return call(p -> p.store(row, isExact));
    }

    int copyRow(int from, int to, int count) {
        return call(p -> p.copyRow(from, to, count));
    }

    int bits(int row, int i) {
        return call(p -> p.bits(row, i));
    }

    int undo() {
        return call(p -> p.undo());
    }

    int saveSnapshot() {
        return call(p -> p.saveSnapshot());
    }

    int restoreSnapshot() {
        return call(p -> p.restoreSnapshot());
    }

    char letter(int unit) {
        return call(p -> p.letter(unit));
    }

    // ---- several calls at once

    void type(String text) {
        for (char c : text.toCharArray()) {
            feed(c);
        }
    }

    /** Extends the map; a text that is too long for the input goes in parts. */
    int extend(String text) {
        int from = 0;
        while (text.length() - from > 80) {
            int cut = text.lastIndexOf(';', from + 80);
            type(text.substring(from, cut));
            extend();
            from = cut + 1;
        }
        type(text.substring(from));
        return extend();
    }

    int read(String plan) {
        type(plan);
        return readPlan();
    }

    // ---- looks at twins: no calls on the object itself

    /** The present plan in letters, '-' for each unit without one. */
    String plan() {
        Planner twin = twin();
        int units = twin.count(0);
        boolean hasPlan = twin.count(6) == 1;
        StringBuilder letters = new StringBuilder();
        for (int u = 0; u < units; u++) {
            letters.append(hasPlan ? twin.letter(u) : '-');
        }
        return letters.toString();
    }

    /** How many changes can be undone. */
    int undoable() {
        Planner twin = twin();
        int undone = 0;
        while (!Check.outcome(twin::undo).equals("IllegalStateException")) {
            undone++;
        }
        return undone;
    }

    /** Map, number of districts, tolerance and present plan. */
    String world() {
        Planner twin = twin();
        StringBuilder seen = new StringBuilder();
        for (int what = 0; what < 9; what++) {
            seen.append(twin.count(what)).append(' ');
        }
        int units = twin.count(0);
        for (int u = 0; u < units; u++) {
            for (int what = 0; what < 8; what++) {
                seen.append(twin.unit(u, what)).append(',');
            }
            for (int v = 0; v < u; v++) {
                seen.append(twin.border(u, v));
            }
            seen.append(' ');
        }
        return seen.toString();
    }

    /** Everything that the object will ever tell; of the parts that are named, nothing. */
    String state(String... without) {
        List<String> left = Arrays.asList(without);
        StringBuilder seen = new StringBuilder(world());
        if (!left.contains("input")) {
            Planner twin = twin();
            seen.append("\n  input ").append(twin.count(9)).append(' ').append(Check.outcome(twin::extend))
                    .append(' ').append(twin.world());
        }
        if (!left.contains("impossible")) {
            seen.append("\n  impossible ").append(Check.outcome(twin()::impossible));
        }
        if (!left.contains("refusal")) {
            Planner twin = twin();
            seen.append("\n  refusal ").append(Check.outcome(() -> twin.refusal(false)))
                    .append(' ').append(Check.outcome(() -> twin.refusal(true)));
        }
        if (!left.contains("rows")) {
            seen.append("\n  rows ").append(rows());
        }
        if (!left.contains("undo")) {
            Planner twin = twin();
            for (int left8 = 0; left8 < 9; left8++) {
                seen.append("\n  undo ").append(Check.outcome(twin::undo)).append(' ').append(twin.world());
            }
        }
        if (!left.contains("snapshot")) {
            Planner twin = twin();
            seen.append("\n  snapshot ").append(Check.outcome(twin::restoreSnapshot)).append(' ')
                    .append(twin.world());
        }
        return seen.toString();
    }

    /** The elements of the rows and, by copies of no elements, their sums and which are of the same kind. */
    private String rows() {
        Planner twin = twin();
        StringBuilder seen = new StringBuilder();
        for (int row = 0; row < 3; row++) {
            for (int i = 0; i < 5; i++) {
                int from = row;
                int number = i;
                seen.append(Check.outcome(() -> twin.bits(from, number))).append(' ');
            }
            for (int other = 0; other < 3; other++) {
                int from = row;
                int to = other;
                seen.append(Check.outcome(() -> twin.copyRow(from, to, 0))).append(' ');
            }
        }
        return seen.toString();
    }
}
