import java.util.ArrayList;
import java.util.Arrays;
import java.util.List;
import java.util.Random;
import java.util.TreeMap;

/** Runs of calls, drawn with fixed seeds, that the class and the model must answer alike. */
public final class ModelTest {
    private static final int RUNS = 1500;
    private static final int CALLS = 512;

    private final Random random;
    private final DistrictPlanner planner = new DistrictPlanner();
    private final Model model = new Model();
    private final int seed;
    private final int mostUnits;
    private final List<String> told = new ArrayList<>();
    private int calls = 0;
    private boolean isRight = true;

    private static final TreeMap<String, Integer> SEEN = new TreeMap<>();

    private ModelTest(int seed) {
        this.seed = seed;
        random = new Random(seed);
        mostUnits = random.nextInt(3) == 0 ? 12 : 3 + random.nextInt(7);
    }

    public static void main(String[] args) {
        for (int seed = 0; seed < RUNS && Check.isAllRight(); seed++) {
            new ModelTest(seed).run();
        }
        if (args.length > 0) {
            System.out.println(SEEN);
        }
        Check.end("ModelTest");
    }

    private void run() {
        build();
        while (calls < CALLS && isRight) {
            step();
        }
    }

    private int any(int bound) {
        return random.nextInt(bound);
    }

    /** Mostly a number from 0 to below the bound, seldom one beyond it. */
    private int near(int bound) {
        int kind = any(40);
        if (kind == 0) {
            return random.nextInt();
        }
        if (kind == 1) {
            return -1;
        }
        return kind == 2 ? bound : any(Math.max(bound, 1));
    }

    private void same(String call, Check.Call own, Check.Call due) {
        if (calls >= CALLS || !isRight) {
            return;
        }
        calls++;
        String wanted = Check.outcome(due);
        String got = Check.outcome(own);
        told.add(call + " -> " + got);
        String name = call.substring(0, call.indexOf('('));
        SEEN.merge(name + (wanted.endsWith("Exception") ? " " + wanted : ""), 1, Integer::sum);
        Check.same("seed " + seed + " call " + calls + ": " + call, wanted, got);
        if (!wanted.equals(got)) {
            isRight = false;
            told.forEach(line -> System.out.println("  " + line));
        }
    }

    private void type(String text) {
        for (char c : text.toCharArray()) {
            same("feed(" + c + ")", () -> planner.feed(c), () -> model.feed(c));
        }
    }

    private void extend(String text) {
        type(text);
        same("extend()", planner::extend, model::extend);
    }

    // ---- texts

    private void build() {
        boolean isSmall = any(2) == 0;
        int width = 1 + any(4);
        for (int u = 0; u < mostUnits; u += 4) {
            StringBuilder text = new StringBuilder();
            for (int i = u; i < Math.min(u + 4, mostUnits); i++) {
                text.append(i == u ? "" : ";").append(unit(isSmall));
            }
            extend(text.toString());
        }
        for (int u = 1; u < mostUnits; u++) {
            String text = "b" + (any(3) == 0 ? any(u) : u - 1) + "-" + u + ":" + (1 + any(9));
            if (u >= width && any(4) != 0) {
                text += ";b" + u + "-" + (u - width) + ":" + (1 + any(9));
            }
            extend(text);
        }
        int tolerance = any(3) == 0 ? any(100) : 99;
        same("setTolerance(" + tolerance + ")", () -> planner.setTolerance(tolerance),
                () -> model.setTolerance(tolerance));
        int districts = 2 + any(3);
        same("setDistricts(" + districts + ")", () -> planner.setDistricts(districts),
                () -> model.setDistricts(districts));
    }

    private String unit(boolean isSmall) {
        String text = "u" + (1 + any(isSmall ? 3 : 99)) + "/" + (1 + any(isSmall ? 9 : 99));
        if (any(2) == 0) {
            text += "@" + any(4) + (any(3) == 0 ? "!" : "");
        }
        return text;
    }

    private String statement() {
        int units = Math.max(1, model.count(0));
        return switch (any(8)) {
            case 0 -> "u" + any(12) + "/" + any(12) + (any(2) == 0 ? "@" + any(5) + (any(2) == 0 ? "!" : "") : "");
            case 1, 2 -> "o" + any(units + any(2)) + ":" + any(10);
            default -> "b" + any(units + any(2)) + "-" + any(units) + ":" + (any(4) == 0 ? 0 : any(10));
        };
    }

    private String text() {
        StringBuilder text = new StringBuilder(statement());
        while (any(3) == 0) {
            text.append(';').append(statement());
        }
        if (any(4) == 0) {
            int at = any(text.length());
            char sign = "0123456789ubo/@!-:;x \u0000\u00e9\uff11".charAt(any(24));
            switch (any(4)) {
                case 0 -> text.setCharAt(at, sign);
                case 1 -> text.insert(at, sign);
                case 2 -> text.deleteCharAt(at);
                default -> text.setLength(at);
            }
        }
        return text.toString();
    }

    /** A plan whose districts grow from single units, so that it is often lawful. */
    private String plan() {
        int units = model.count(0);
        int districts = model.count(4);
        int[] places = new int[units];
        Arrays.fill(places, -1);
        for (int d = 0; d < districts && units > 0; d++) {
            places[any(units)] = d;
        }
        for (int round = 0; round < 300 && units > 0; round++) {
            int u = any(units);
            int v = any(units);
            if (places[u] < 0 && places[v] >= 0 && model.border(u, v) > 0) {
                places[u] = places[v];
            }
        }
        StringBuilder text = new StringBuilder();
        for (int place : places) {
            text.append((char) ((any(2) == 0 ? 'A' : 'a') + Math.max(place, 0)));
        }
        if (any(15) == 0 && units > 0) {
            text.setCharAt(any(units), (char) ('@' + any(6)));
        }
        if (any(25) == 0 && units > 0) {
            text.setLength(any(units));
        }
        return any(25) == 0 ? text + "A" : text.toString();
    }

    // ---- calls

    private void step() {
        boolean isPlanWanted = model.count(6) == 0 && any(3) == 0;
        int kind = isPlanWanted ? 6 : any(100);
        if (kind < 6) {
            changeMap();
        } else if (kind < 16) {
            type(plan());
            same("readPlan()", planner::readPlan, model::readPlan);
        } else if (kind < 40) {
            changePlan();
        } else if (kind < 62) {
            lookAtMap();
        } else if (kind < 80) {
            lookAtPlan();
        } else if (kind < 88) {
            lookAtAllPlans();
        } else {
            useRows();
        }
    }

    private void changeMap() {
        int kind = any(60);
        if (kind < 30) {
            extend(text());
        } else if (kind < 40) {
            int districts = 1 + any(5);
            same("setDistricts(" + districts + ")", () -> planner.setDistricts(districts),
                    () -> model.setDistricts(districts));
        } else if (kind < 50) {
            int tolerance = any(3) == 0 ? near(100) : 99;
            same("setTolerance(" + tolerance + ")", () -> planner.setTolerance(tolerance),
                    () -> model.setTolerance(tolerance));
        } else if (kind < 53) {
            same("restoreSnapshot()", planner::restoreSnapshot, model::restoreSnapshot);
        } else if (kind < 58) {
            same("saveSnapshot()", planner::saveSnapshot, model::saveSnapshot);
        } else {
            same("clearMap()", planner::clearMap, model::clearMap);
            if (any(3) != 0) {
                same("undo()", planner::undo, model::undo);
            }
        }
    }

    private void changePlan() {
        int units = model.count(0);
        int unit = near(units);
        int other = near(units);
        int district = near(model.count(4));
        int measure = near(4);
        switch (any(12)) {
            case 0, 1, 2 -> same("move(" + unit + ", " + district + ")", () -> planner.move(unit, district),
                    () -> model.move(unit, district));
            case 3, 4, 5 -> same("swap(" + unit + ", " + other + ")", () -> planner.swap(unit, other),
                    () -> model.swap(unit, other));
            case 6, 7 -> same("undo()", planner::undo, model::undo);
            case 8 -> {
                same("improve(" + measure + ")", () -> planner.improve(measure), () -> model.improve(measure));
                lettersAreSame();
            }
            case 9, 10 -> {
                int plans = units > 0 && units < 10 ? model.plans() : 3;
                int plan = near(plans);
                same("choose(" + plan + ")", () -> planner.choose(plan), () -> model.choose(plan));
            }
            default -> same("refuses(" + unit + ", " + district + ")", () -> planner.refuses(unit, district),
                    () -> model.refuses(unit, district));
        }
        refusalIsSame();
    }

    private void lettersAreSame() {
        for (int u = 0; u <= model.count(0); u++) {
            int unit = u;
            same("letter(" + u + ")", () -> planner.letter(unit), () -> model.letter(unit));
        }
    }

    private void refusalIsSame() {
        same("refusal(false)", () -> planner.refusal(false), () -> model.refusal(false));
        same("refusal(true)", () -> planner.refusal(true), () -> model.refusal(true));
    }

    private void lookAtMap() {
        int units = model.count(0);
        int unit = near(units);
        int other = near(units);
        int what = near(8);
        int counted = near(10);
        switch (any(5)) {
            case 0 -> same("border(" + unit + ", " + other + ")", () -> planner.border(unit, other),
                    () -> model.border(unit, other));
            case 1 -> same("count(" + counted + ")", () -> planner.count(counted), () -> model.count(counted));
            case 2 -> same("impossible()", planner::impossible, model::impossible);
            default -> same("unit(" + unit + ", " + what + ")", () -> planner.unit(unit, what),
                    () -> model.unit(unit, what));
        }
    }

    private void lookAtPlan() {
        int district = near(model.count(4));
        int what = near(7);
        int measure = near(4);
        int unit = near(model.count(0));
        boolean flag = random.nextBoolean();
        switch (any(8)) {
            case 0, 1, 2 -> same("district(" + district + ", " + what + ")", () -> planner.district(district, what),
                    () -> model.district(district, what));
            case 3, 4 -> same("measure(" + measure + ", " + flag + ")", () -> planner.measure(measure, flag),
                    () -> model.measure(measure, flag));
            case 5 -> same("meanCompactness()", planner::meanCompactness, model::meanCompactness);
            case 6 -> same("possible(" + flag + ")", () -> planner.possible(flag), () -> model.possible(flag));
            default -> same("letter(" + unit + ")", () -> planner.letter(unit), () -> model.letter(unit));
        }
    }

    private void lookAtAllPlans() {
        int units = model.count(0);
        int plans = units > 0 && units < 10 ? model.plans() : 3;
        int plan = near(plans);
        int unit = near(units);
        // The model compares all plans: that would take long for thousands of them.
        int measure = plans < 2000 ? near(4) : 4;
        switch (any(4)) {
            case 0 -> same("plans()", planner::plans, model::plans);
            case 1 -> same("counted()", planner::counted, model::counted);
            case 2 -> same("best(" + measure + ")", () -> planner.best(measure), () -> model.best(measure));
            default -> same("planned(" + plan + ", " + unit + ")", () -> planner.planned(plan, unit),
                    () -> model.planned(plan, unit));
        }
    }

    private void useRows() {
        int row = near(3);
        int to = near(3);
        int count = near(5);
        boolean isExact = any(4) != 0;
        switch (any(5)) {
            case 0, 1 -> same("store(" + row + ", " + isExact + ")", () -> planner.store(row, isExact),
                    () -> model.store(row, isExact));
            case 2 -> same("copyRow(" + row + ", " + to + ", " + count + ")", () -> planner.copyRow(row, to, count),
                    () -> model.copyRow(row, to, count));
            default -> same("bits(" + row + ", " + count + ")", () -> planner.bits(row, count),
                    () -> model.bits(row, count));
        }
    }
}
