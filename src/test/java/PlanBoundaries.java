/** The boundary cases of plans and of their changes: the description, and the promises 9 to 16 and 32. */
final class PlanBoundaries extends Bench {
    private static final int[] NO_UNIT_OF_SIX = {LEAST, -1, 6, 7, 12, 32, GREATEST};
    private static final int[] NO_DISTRICT_OF_TWO = {LEAST, -1, 2, 3, 4, 32, GREATEST};

    private PlanBoundaries() {
    }

    static void run() {
        settings();
        reasons();
        presentPlan();
        changes();
        setDistricts();
        setTolerance();
        readPlan();
        move();
        swap();
        refuses();
        refusal();
        district();
        letter();
    }

    private static void readRefused(Planner planner, String plan, int reason, int detail) {
        sameUnchanged("readPlan " + plan, reason, planner, () -> planner.read(plan), "refusal");
        refusalIs(planner, "readPlan " + plan, reason, detail);
    }

    private static void refusalIs(Planner planner, String call, int reason, int detail) {
        Check.same("reason of " + call, reason, planner.refusal(false));
        Check.same("detail of " + call, detail, planner.refusal(true));
    }

    private static void readLawful(Planner planner, String plan) {
        Check.same("readPlan " + plan, 0, planner.read(plan));
        Check.same("present plan", plan, planner.plan());
    }

    private static void moveRefused(Planner planner, int unit, int district, int reason, int detail) {
        String call = "move " + unit + " " + district;
        sameUnchanged("refuses for " + call, reason, planner, () -> planner.refuses(unit, district));
        failsUnchanged(call, UNSUPPORTED, planner, () -> planner.move(unit, district), "refusal");
        refusalIs(planner, call, reason, detail);
    }

    private static void moved(Planner planner, int unit, int district, int previous, String plan) {
        String call = "move " + unit + " " + district;
        sameUnchanged("refuses for " + call, 0, planner, () -> planner.refuses(unit, district));
        Check.same(call, previous, planner.move(unit, district));
        Check.same("plan behind " + call, plan, planner.plan());
    }

    private static void swapRefused(Planner planner, int unit, int other, int reason, int detail) {
        String call = "swap " + unit + " " + other;
        failsUnchanged(call, UNSUPPORTED, planner, () -> planner.swap(unit, other), "refusal");
        refusalIs(planner, call, reason, detail);
    }

    private static void swapped(Planner planner, int unit, int other, int previous, String plan) {
        String call = "swap " + unit + " " + other;
        Check.same(call, previous, planner.swap(unit, other));
        Check.same("plan behind " + call, plan, planner.plan());
    }

    private static Planner with(String map, int districts, int tolerance) {
        Planner planner = mapped(map);
        planner.setDistricts(districts);
        planner.setTolerance(tolerance);
        return planner;
    }

    // ---- "Plans"

    private static void settings() {
        description("The number of districts is from 2 to 4, at first 2, the tolerance from 0 to 99, at first 10");
        Planner planner = empty();
        Check.same("number of districts at first", 2, planner.count(4));
        Check.same("tolerance at first", 10, planner.count(5));
        for (int number = 2; number <= 4; number++) {
            planner.setDistricts(number);
            Check.same("number of districts", number, planner.count(4));
        }
        for (int tolerance : new int[] {0, 1, 98, 99}) {
            planner.setTolerance(tolerance);
            Check.same("tolerance", tolerance, planner.count(5));
        }
        for (int number : new int[] {1, 5}) {
            failsUnchanged("setDistricts " + number, ARGUMENT, planner, () -> planner.setDistricts(number));
        }
        for (int tolerance : new int[] {-1, 100}) {
            failsUnchanged("setTolerance " + tolerance, ARGUMENT, planner, () -> planner.setTolerance(tolerance));
        }
        description("A plan gives a district to each unit of the map");
        Planner twelve = with(units(12) + ";b0-1:1;b1-2:1;b2-3:1;b3-4:1;b4-5:1;b6-7:1;b7-8:1;b8-9:1;b9-10:1;b10-11:1",
                2, 99);
        sameUnchanged("eleven letters", -111, twelve, () -> twelve.read("AAAAAABBBBB"));
        sameUnchanged("thirteen letters", -112, twelve, () -> twelve.read("AAAAAABBBBBBB"));
        readLawful(twelve, "AAAAAABBBBBB");
        for (int u = 0; u < 12; u++) {
            Check.same("district of " + u, u / 6, twelve.unit(u, 6));
        }
    }

    private static void reasons() {
        firstReason();
        noUnits();
        notContiguous();
        splitCores();
        notBalanced();
        lowestUnbalanced();
        description("Otherwise it is lawful");
        readLawful(with("u1/1@0!;u1/1@0!;u1/1@1!;u1/1@1!;b0-1:1;b2-3:1", 2, 0), "AABB");
        readLawful(with("u1/1@0!;u1/1@0!;u1/1@1!;u1/1@1!;b0-1:1;b2-3:1", 2, 0), "BBAA");
        readLawful(with(units(2), 2, 0), "BA");
    }

    private static void firstReason() {
        description("A plan is refused for the first of the following reasons that applies");
        // Units 0 and 5 at the ends of a path are cores of one community, and unit 5 is most of the population.
        String path = "u1/1@2!;u1/1;u1/1;u1/1;u1/1;u9/1@2!;b0-1:1;b1-2:1;b2-3:1;b3-4:1;b4-5:1";
        Planner planner = with(path, 3, 10);
        readRefused(planner, "ACACAC", 1, 1);
        readRefused(planner, "AAACCC", 1, 1);
        readRefused(planner, "CCCCCC", 1, 0);
        readRefused(planner, "ABABAC", 2, 0);
        readRefused(planner, "ABCBAC", 2, 0);
        readRefused(planner, "ABCBAA", 2, 0);
        readRefused(planner, "AAABBC", 3, 2);
        readRefused(planner, "AABBCC", 3, 2);
        Planner loose = with(path + ";b0-5:1", 3, 10);
        readRefused(loose, "ABBCCA", 4, 0);
        Planner tolerant = with(path + ";b0-5:1", 3, 99);
        readRefused(tolerant, "ABBCCC", 3, 2);
        readRefused(with("u1/1;u1/1;u1/1@2!;u1/1@2!;b0-1:1;b1-2:1;b2-3:1", 2, 99), "AAAA", 1, 1);
        readRefused(with("u1/1;u1/1;u1/1@2!;u1/1@2!;b0-1:1;b1-2:1;b2-3:1", 2, 99), "ABAB", 2, 0);
        readLawful(with("u1/1;u1/1;u1/1@2!;u1/1@2!;b0-1:1;b1-2:1;b2-3:1", 2, 99), "ABBB");
    }

    private static void noUnits() {
        description("1: a district has no units; the lowest such district");
        Planner planner = with(complete6(), 4, 99);
        Object[][] plans = {
            {"AAAAAA", 1}, {"BBBBBB", 0}, {"CCCCCC", 0}, {"DDDDDD", 0}, {"AABBBB", 2}, {"AACCCC", 1}, {"AADDDD", 1},
            {"BBCCCC", 0}, {"BBDDDD", 0}, {"CCDDDD", 0}, {"AABBCC", 3}, {"AABBDD", 2}, {"AACCDD", 1}, {"BBCCDD", 0},
        };
        for (Object[] plan : plans) {
            readRefused(planner, (String) plan[0], 1, (Integer) plan[1]);
        }
        readLawful(planner, "ABBCCD");
        Planner two = with(complete6(), 2, 99);
        readRefused(two, "AAAAAA", 1, 1);
        readRefused(two, "BBBBBB", 1, 0);
        readLawful(two, "AAAAAB");
        readRefused(with("u1/1", 2, 99), "A", 1, 1);
        readRefused(with("u1/1", 2, 99), "B", 1, 0);
        readRefused(with(units(3), 4, 99), "CAB", 1, 3);
    }

    private static String complete6() {
        return units(6) + ";b0-1:1;b0-2:1;b0-3:1;b0-4:1;b0-5:1;b1-2:1;b1-3:1;b1-4:1;b1-5:1;b2-3:1;b2-4:1;b2-5:1"
                + ";b3-4:1;b3-5:1;b4-5:1";
    }

    private static void notContiguous() {
        description("2: a district is not contiguous, which means that not all of its units can be reached from each "
                + "other by neighbors within it; the lowest such district");
        Planner planner = with(PATH6, 3, 99);
        readRefused(planner, "ABABCC", 2, 0);
        readRefused(planner, "ABCBCC", 2, 1);
        readRefused(planner, "ABCCBC", 2, 1);
        readRefused(planner, "ABBCAC", 2, 0);
        readRefused(planner, "CABBBC", 2, 2);
        readRefused(planner, "CAABBC", 2, 2);
        readRefused(planner, "BACABC", 2, 0);
        readLawful(planner, "CAAABB");
        // The way from 0 to 5 leads through another district.
        readRefused(planner, "ABBCCA", 2, 0);
        Planner apart = with(units(3), 2, 99);
        readRefused(apart, "AAB", 2, 0);
        readRefused(apart, "ABB", 2, 1);
        readRefused(apart, "BAB", 2, 1);
        Planner alone = with(units(2), 2, 99);
        readLawful(alone, "AB");
        // A district of eleven units whose lowest and greatest ones stand in the middle of the way through it.
        String way = ";b10-8:1;b8-6:1;b6-4:1;b4-2:1;b2-0:1;b0-9:1;b9-7:1;b7-5:1;b5-3:1;b3-1:1";
        readLawful(with(units(12) + way, 2, 99), "AAAAAAAAAAAB");
        readRefused(with(units(12) + way + ";b0-9:0", 2, 99), "AAAAAAAAAAAB", 2, 0);
        readRefused(with(units(12) + way + ";b10-8:0;b10-11:1;b11-8:1", 2, 99), "AAAAAAAAAAAB", 2, 0);
        readRefused(with(units(12) + way, 2, 99), "AAAAAAAAAABB", 2, 1);
    }

    private static void splitCores() {
        description("3: a community has core units in different districts; the lowest such community");
        for (int group = 0; group < 4; group++) {
            String mark = "@" + group;
            String borders = ";b0-1:1;b1-2:1;b2-3:1";
            String both = "u1/1" + mark + "!;u1/1;u1/1;u1/1" + mark + "!" + borders;
            readRefused(with(both, 2, 99), "AABB", 3, group);
            readRefused(with(both, 2, 99), "BAAA", 3, group);
            readLawful(with(both + ";b0-3:1", 2, 99), "ABBA");
            readLawful(with("u1/1" + mark + "!;u1/1;u1/1;u1/1" + mark + borders, 2, 99), "AABB");
            readLawful(with("u1/1" + mark + ";u1/1;u1/1;u1/1" + mark + borders, 2, 99), "AABB");
            readLawful(with("u1/1" + mark + "!;u1/1;u1/1;u1/1@" + (group + 1) % 4 + "!" + borders, 2, 99), "AABB");
        }
        readRefused(with("u1/1@3!;u1/1@1!;u1/1@3!;u1/1@1!;b0-1:1;b2-3:1", 2, 99), "AABB", 3, 1);
        readRefused(with("u1/1@0!;u1/1@2!;u1/1@2!;u1/1@0!;b0-1:1;b2-3:1", 2, 99), "BBAA", 3, 0);
        readRefused(with("u1/1@2!;u1/1@3!;u1/1@3!;u1/1@2;b0-1:1;b2-3:1", 2, 99), "AABB", 3, 3);
        readRefused(with("u1/1@1!;u1/1@1!;u1/1@1!", 3, 99), "CBA", 3, 1);
        // Unit 11 is a core, too.
        String twelve = "u1/1@3!;" + units(10) + ";u1/1@3!;b0-1:1;b1-2:1;b2-3:1;b3-4:1;b4-5:1;b5-6:1;b6-7:1;b7-8:1"
                + ";b8-9:1;b9-10:1;b10-11:1";
        readRefused(with(twelve, 2, 99), "AAAAAAAAAAAB", 3, 3);
    }

    /** A pair of districts with these populations, each in as many units as it takes. */
    private static String pair(int first, int second) {
        return people(first, 0) + ";" + people(second, (first + 98) / 99);
    }

    /** Units from this one on that have this population together, in a row. */
    private static String people(int population, int unit) {
        StringBuilder text = new StringBuilder();
        int left = population;
        int last = unit;
        while (left > 0) {
            int some = Math.min(left, 99);
            text.append(text.length() == 0 ? "" : ";").append("u" + some + "/1");
            if (last > unit) {
                text.append(";b" + (last - 1) + "-" + last + ":1");
            }
            left -= some;
            last++;
        }
        return text.toString();
    }

    private static String letters(int... populations) {
        StringBuilder plan = new StringBuilder();
        for (int d = 0; d < populations.length; d++) {
            plan.append(("" + (char) ('A' + d)).repeat((populations[d] + 98) / 99));
        }
        return plan.toString();
    }

    private static final String BALANCE = "4: a district is not balanced, which means that 100 times the absolute "
            + "difference of its population times the number of districts and the population of the map is above the "
            + "tolerance times the population of the map; the lowest such district";

    private static void notBalanced() {
        description(BALANCE);
        // Tolerance, the populations of two districts, the reason.
        int[][] pairs = {
            {0, 50, 50, 0}, {0, 50, 51, 4}, {0, 51, 50, 4}, {0, 1, 1, 0}, {0, 594, 594, 0}, {0, 594, 593, 4},
            {1, 101, 99, 0}, {1, 102, 99, 4}, {1, 99, 101, 0}, {1, 99, 102, 4}, {1, 594, 594, 0}, {1, 594, 583, 0},
            {1, 594, 582, 4}, {9, 55, 45, 4}, {10, 55, 45, 0}, {10, 45, 55, 0}, {10, 56, 45, 4}, {10, 45, 56, 4},
            {11, 56, 45, 0}, {98, 199, 1, 4}, {98, 99, 1, 0}, {97, 99, 1, 4}, {99, 199, 1, 0}, {99, 1, 199, 0},
            {99, 200, 1, 4}, {99, 1, 200, 4}, {99, 1089, 1, 4},
        };
        for (int[] line : pairs) {
            Planner planner = with(pair(line[1], line[2]), 2, line[0]);
            String plan = letters(line[1], line[2]);
            if (line[3] == 0) {
                readLawful(planner, plan);
            } else {
                readRefused(planner, plan, 4, 0);
            }
        }
    }

    private static void lowestUnbalanced() {
        description(BALANCE);
        String three = people(199, 0) + ";" + people(100, 3) + ";u1/1";
        readLawful(with(three, 3, 99), "AAABBC");
        readRefused(with(three, 3, 98), "AAABBC", 4, 0);
        readRefused(with(three, 3, 98), "BBBAAC", 4, 1);
        readRefused(with(three, 3, 98), "CCCAAB", 4, 1);
        readRefused(with(three, 3, 98), "CCCBBA", 4, 0);
        Planner four = with("u1/1;u1/1;u1/1;u2/1", 4, 60);
        readLawful(four, "ABCD");
        four.setTolerance(59);
        readRefused(four, "ABCD", 4, 3);
        readRefused(four, "ABDC", 4, 2);
        readRefused(four, "ACDB", 4, 1);
        four.setTolerance(20);
        readRefused(four, "BCDA", 4, 0);
        four.setTolerance(19);
        readRefused(four, "ABCD", 4, 0);
        readRefused(with("u4/1;u4/1;u3/1", 3, 9), "ABC", 4, 0);
        readRefused(with("u4/1;u4/1;u3/1", 3, 10), "ABC", 4, 2);
        readRefused(with("u4/1;u3/1;u4/1", 3, 18), "ABC", 4, 1);
        readLawful(with("u4/1;u4/1;u3/1", 3, 19), "ABC");
    }

    private static void presentPlan() {
        description("There is a present plan, which is lawful, or none, at first none");
        Planner planner = mapped(PATH6);
        Check.same("at first", "------", planner.plan());
        readRefused(planner, "AAAABB", 4, 0);
        Check.same("behind a refused one", "------", planner.plan());
        readLawful(planner, "AAABBB");
        readRefused(planner, "AAAABB", 4, 0);
        Check.same("behind a refused one", "AAABBB", planner.plan());
        planner.undo();
        Check.same("none again", "------", planner.plan());
        presentPlanGoes();
    }

    private static void presentPlanGoes() {
        description("Behind each successful call of extend, clearMap, setDistricts and setTolerance there is none, "
                + "even if nothing is different then");
        String[] same = {"o0:3", "b0-1:2", "o0:0;o0:3", "b0-3:1;b0-3:0"};
        for (String text : same) {
            Planner planner = ring("AABB");
            Check.same(text, 4, planner.extend(text));
            Check.same("behind " + text, "----", planner.plan());
        }
        Planner planner = ring("AABB");
        Check.same("the same number", 2, planner.setDistricts(2));
        Check.same("behind setDistricts", "----", planner.plan());
        readLawful(planner, "AABB");
        Check.same("the same tolerance", 99, planner.setTolerance(99));
        Check.same("behind setTolerance", "----", planner.plan());
        readLawful(planner, "AABB");
        Check.same("clearMap", 4, planner.clearMap());
        Check.same("behind clearMap", 0, planner.count(6));
        Planner kept = ring("AABB");
        Check.same("a fault", -101, kept.extend("u"));
        Check.fails("an impossible one", UNSUPPORTED, () -> kept.extend("o0:1;o4:1"));
        Check.fails("setDistricts 1", ARGUMENT, () -> kept.setDistricts(1));
        Check.fails("setDistricts 5", ARGUMENT, () -> kept.setDistricts(5));
        Check.fails("setTolerance -1", ARGUMENT, () -> kept.setTolerance(-1));
        Check.fails("setTolerance 100", ARGUMENT, () -> kept.setTolerance(100));
        Check.same("behind calls without success", "AABB", kept.plan());
    }

    // ---- "Changes of plans"

    private static void changes() {
        description("A move gives a unit to another district");
        Planner planner = planned(PATH6, 3, 99, "AAABBC");
        moved(planner, 2, 1, 0, "AABBBC");
        moved(planner, 4, 2, 1, "AABBCC");
        moved(planner, 2, 0, 1, "AAABCC");
        description("a swap exchanges the districts of two units that are in different ones");
        Planner triangle = planned("u1/1;u1/1;u1/1;b0-1:1;b1-2:1;b0-2:1", 3, 99, "ABC");
        swapped(triangle, 0, 1, 0, "BAC");
        swapped(triangle, 2, 0, 2, "CAB");
        swapped(triangle, 1, 2, 0, "CBA");
        movesWithoutNeighbor();
        movesWithNeighbor();
        swapsWithoutNeighbor();
        swapsWithNeighbor();
    }

    private static final String REFUSED = "Moves and swaps are refused if the unit that gets into a district has no "
            + "neighbor there before that, where for a swap the other unit counts, too, which is the reason 5, with "
            + "the unit as the detail, for swaps the first one of both, as they are given, for which that is so, or "
            + "else for the reason for which the plan behind it is refused";

    private static void movesWithoutNeighbor() {
        description(REFUSED);
        Planner planner = planned(PATH6, 3, 99, "AABBCC");
        moveRefused(planner, 0, 1, 5, 0);
        moveRefused(planner, 0, 2, 5, 0);
        moveRefused(planner, 1, 2, 5, 1);
        moveRefused(planner, 5, 0, 5, 5);
        moveRefused(planner, 5, 1, 5, 5);
        // It is the reason 5 also where the plan behind it would be refused for another one.
        Planner apart = planned(units(2), 2, 99, "AB");
        moveRefused(apart, 0, 1, 5, 0);
        moveRefused(apart, 1, 0, 5, 1);
        Planner cores = planned("u1/1@0!;u1/1@0!;u1/1;u1/1;b0-1:1;b1-2:1;b2-3:1", 2, 50, "AAAB");
        moveRefused(cores, 0, 1, 5, 0);
    }

    private static void movesWithNeighbor() {
        description(REFUSED);
        Planner pair = planned("u1/1;u1/1;b0-1:1", 2, 99, "AB");
        moveRefused(pair, 0, 1, 1, 0);
        moveRefused(pair, 1, 0, 1, 1);
        Planner star = planned("u1/1;u1/1;u1/1;u1/1;b0-1:1;b0-2:1;b0-3:1", 2, 99, "AAAB");
        moveRefused(star, 0, 1, 2, 0);
        moveRefused(star, 1, 1, 5, 1);
        Planner cores = planned("u1/1@1!;u1/1@1!;u1/1;u1/1;b0-1:1;b1-2:1;b2-3:1", 2, 99, "AABB");
        moveRefused(cores, 1, 1, 3, 1);
        moved(cores, 2, 0, 1, "AAAB");
        Planner people = planned(PATH6, 2, 33, "AAABBB");
        moveRefused(people, 2, 1, 4, 0);
        moveRefused(people, 3, 0, 4, 0);
        people.setTolerance(34);
        readLawful(people, "AAABBB");
        moved(people, 3, 0, 1, "AAAABB");
    }

    private static void swapsWithoutNeighbor() {
        description(REFUSED);
        Planner planner = planned(PATH6, 2, 99, "AAABBB");
        swapRefused(planner, 0, 5, 5, 0);
        swapRefused(planner, 5, 0, 5, 5);
        swapRefused(planner, 1, 4, 5, 1);
        swapRefused(planner, 4, 1, 5, 4);
        // Only one of both has no neighbor.
        swapRefused(planner, 2, 4, 5, 4);
        swapRefused(planner, 4, 2, 5, 4);
        swapRefused(planner, 1, 3, 5, 1);
        swapRefused(planner, 3, 1, 5, 1);
        Planner three = planned(PATH6, 3, 99, "AABBCC");
        // Unit 3 has a neighbor in C, unit 1 in B: none where they get.
        swapRefused(three, 1, 4, 5, 1);
        swapRefused(three, 4, 1, 5, 4);
        swapRefused(three, 2, 5, 5, 2);
        swapRefused(three, 5, 2, 5, 5);
        Planner apart = planned(units(2), 2, 99, "AB");
        swapRefused(apart, 0, 1, 5, 0);
        swapRefused(apart, 1, 0, 5, 1);
    }

    private static void swapsWithNeighbor() {
        description(REFUSED);
        // The only neighbor of each in the other district is the other one of both: it counts.
        Planner pair = planned("u1/1;u1/1;b0-1:1", 2, 99, "AB");
        swapped(pair, 0, 1, 0, "BA");
        swapped(pair, 0, 1, 1, "AB");
        Planner path = planned(PATH6, 2, 99, "AAABBB");
        swapRefused(path, 2, 3, 2, 0);
        swapRefused(path, 3, 2, 2, 0);
        Planner three = planned("u1/1;u1/1;u1/1;b0-1:1;b1-2:1", 3, 99, "ABC");
        swapped(three, 2, 1, 2, "ACB");
        swapRefused(three, 0, 2, 5, 0);
        swapRefused(three, 2, 0, 5, 2);
        // They need not be neighbors of each other.
        Planner ring = ring("AABB");
        swapped(ring, 0, 3, 0, "BABA");
        swapRefused(ring, 0, 1, 2, 0);
        Planner cores = planned("u1/1@3!;u1/1@3!;u1/1;u1/1;b0-1:1;b1-2:1;b2-3:1;b3-0:1;b0-2:1;b1-3:1", 2, 99, "AABB");
        swapRefused(cores, 0, 2, 3, 3);
        swapRefused(cores, 3, 1, 3, 3);
        Planner people = planned("u1/1;u3/1;u2/1;u2/1;b0-1:1;b1-2:1;b2-3:1;b3-0:1;b0-2:1;b1-3:1", 2, 24, "AABB");
        swapRefused(people, 0, 2, 4, 0);
        swapRefused(people, 2, 0, 4, 0);
        swapRefused(people, 1, 3, 4, 0);
        people.setTolerance(25);
        readLawful(people, "AABB");
        swapped(people, 0, 2, 0, "BAAB");
    }

    // ---- promises 9 to 16 and 32

    private static void setDistricts() {
        promise(9, "`districts`: the number, 2 to 4");
        Planner planner = empty();
        for (int number : new int[] {2, 3, 4, 2}) {
            planner.setDistricts(number);
            Check.same("number", number, planner.count(4));
        }
        promise(9, "Returns the previous number");
        Check.same("at first", 2, empty().setDistricts(4));
        int[] numbers = {2, 2, 4, 4, 3, 2};
        for (int i = 1; i < numbers.length; i++) {
            Check.same("setDistricts", numbers[i - 1], planner.setDistricts(numbers[i]));
        }
        promise(9, "Throws `IllegalArgumentException` if districts is out of range");
        Planner ring = ring("AABB");
        for (int number : new int[] {LEAST, -2, -1, 0, 1, 5, 6, 258, GREATEST}) {
            failsUnchanged("setDistricts " + number, ARGUMENT, ring, () -> ring.setDistricts(number));
        }
    }

    private static void setTolerance() {
        promise(10, "`tolerance`: the tolerance, 0 to 99");
        Planner planner = empty();
        for (int tolerance = 0; tolerance < 100; tolerance++) {
            planner.setTolerance(tolerance);
            Check.same("tolerance", tolerance, planner.count(5));
        }
        promise(10, "Returns the previous tolerance");
        Check.same("at first", 10, empty().setTolerance(0));
        int[] tolerances = {99, 0, 0, 1, 98, 99, 99};
        for (int i = 1; i < tolerances.length; i++) {
            Check.same("setTolerance", tolerances[i - 1], planner.setTolerance(tolerances[i]));
        }
        promise(10, "Throws `IllegalArgumentException` if tolerance is out of range");
        Planner ring = ring("AABB");
        for (int tolerance : new int[] {LEAST, -100, -1, 100, 101, 256, GREATEST}) {
            failsUnchanged("setTolerance " + tolerance, ARGUMENT, ring, () -> ring.setTolerance(tolerance));
        }
    }

    private static void readPlan() {
        readLetters();
        readEmptiesTheInput();
        readReplaces();
        promise(11, "Returns 0 if it is lawful, otherwise the reason for which it is refused, which is kept for refusal");
        Planner planner = with("u1/1@1!;u1/1;u1/1;u2/1@1!;b0-1:1;b1-2:1;b2-3:1;b3-0:1", 2, 19);
        readRefused(planner, "BBBB", 1, 0);
        readRefused(planner, "ABAB", 2, 0);
        readRefused(planner, "AABB", 3, 1);
        readRefused(planner, "ABBA", 4, 0);
        planner.setTolerance(20);
        Check.same("lawful", 0, planner.read("ABBA"));
        refusalIs(planner, "an earlier one", 4, 0);
        readFaults();
        readTooShort();
        promise(11, "Throws `IllegalStateException` if the map is empty");
        Planner none = empty();
        failsUnchanged("an empty map", STATE, none, none::readPlan);
        failsUnchanged("an empty map", STATE, none, () -> none.read("AB"));
        failsUnchanged("an empty map", STATE, none, () -> none.read("?"));
        none.extend(units(2));
        Check.same("a map", 0, none.read("AB"));
        none.clearMap();
        failsUnchanged("an empty map again", STATE, none, () -> none.read("AB"));
    }

    private static void readLetters() {
        promise(11, "Reads the input as a plan: a letter for each unit in their order, A for district 0, B for district "
                + "1, and so on, in upper or lower case");
        Planner planner = with(units(4), 4, 10);
        for (String plan : new String[] {"ABCD", "abcd", "DcBa", "dCbA", "bdac"}) {
            Check.same(plan, 0, planner.read(plan));
            Check.same("plan of " + plan, plan.toUpperCase(), planner.plan());
        }
        // The last letter for each number of districts, and the one behind it.
        for (int districts = 2; districts <= 4; districts++) {
            Planner some = with(units(districts), districts, 10);
            String good = "ABCD".substring(0, districts);
            String bad = "ABCD".substring(0, districts - 1) + (char) ('A' + districts);
            Check.same(good, 0, some.read(good));
            Check.same(good, 0, some.read(good.toLowerCase()));
            sameUnchanged(bad, -100 - districts + 1, some, () -> some.read(bad));
            sameUnchanged(bad, -100 - districts + 1, some, () -> some.read(bad.toLowerCase()));
        }
    }

    private static void readEmptiesTheInput() {
        promise(11, "The input is empty afterwards in any case");
        Planner planner = mapped(PATH6);
        String[] plans = {"AAABBB", "AAAABB", "AAAAAA", "AAAB?B", "AAABB", "AAABBBB", "", "x".repeat(80)};
        for (String plan : plans) {
            planner.read(plan);
            Check.same("behind " + plan, 0, planner.count(9));
        }
        Check.same("nothing is left", 0, planner.read("AAABBB"));
        Planner none = empty();
        none.type("u1/");
        Check.fails("an empty map", STATE, none::readPlan);
        Check.same("behind the exception", 0, none.count(9));
        Check.same("nothing is left", 1, none.extend("u1/1"));
        none.clearMap();
        none.type("x".repeat(80));
        Check.fails("an empty map", STATE, none::readPlan);
        Check.same("behind the exception", 1, none.feed('x'));
    }

    private static void readReplaces() {
        promise(11, "A lawful plan becomes the present one");
        Planner planner = with(PATH6, 2, 99);
        readLawful(planner, "AAABBB");
        readLawful(planner, "BBBAAA");
        readLawful(planner, "BBBAAA");
        readLawful(planner, "ABBBBB");
        Check.same("set of A", 1, planner.district(0, 1));
        Check.same("set of B", 62, planner.district(1, 1));
        sameUnchanged("a fault", -106, planner, () -> planner.read("BBBAAAA"));
        readRefused(planner, "BABAAA", 2, 0);
        Check.same("the plan stays", "ABBBBB", planner.plan());
        readBehindGreaterMaps();
    }

    /** Nothing of the units of a greater map is left in plans of a smaller one. */
    private static void readBehindGreaterMaps() {
        promise(11, "A lawful plan becomes the present one");
        Planner planner = planned(PATH6, 2, 99, "AAABBB");
        planner.clearMap();
        planner.extend("u1/1;u1/1;u1/1;b0-1:1;b1-2:1");
        readLawful(planner, "AAB");
        districts(planner, 1, 3, 4);
        moved(planner, 1, 1, 0, "ABB");
        districts(planner, 1, 1, 6);
        Planner smaller = planned(PATH6, 2, 99, "AAABBB");
        smaller.clearMap();
        smaller.extend("u1/1;u1/1;b0-1:1");
        readLawful(smaller, "BA");
        swapped(smaller, 0, 1, 1, "AB");
        districts(smaller, 0, 1, 1);
        Planner chosen = planned(PATH6, 2, 99, "AAABBB");
        chosen.clearMap();
        chosen.extend("u1/1;u1/1;b0-1:1");
        Check.same("choose", 2, chosen.choose(0));
        districts(chosen, 1, 1, 2);
    }

    private static final String FAULT = "-100 minus the offset of the first character that is no letter of a district "
            + "that there is, or has no unit, or minus the length of the input if it is too short";

    private static void readFaults() {
        promise(11, FAULT);
        Planner planner = planned(PATH6, 2, 99, "AAABBB");
        char[] none = {'@', 'C', 'D', 'E', 'Z', '`', 'c', 'd', 'z', '0', '1', ' ', 0, 0x141, 0x142, 0x161, 0xc1, 0xe1,
            0xff21, 0xffff};
        for (char sign : none) {
            for (int at = 0; at < 6; at += at == 0 ? 1 : 2) {
                String plan = "AAABBB".substring(0, at) + sign + "AAABBB".substring(at + 1);
                Planner twin = planner.twin();
                Check.same("sign " + (int) sign + " at " + at, -100 - at, twin.read(plan));
                Check.same("plan behind it", "AAABBB", twin.plan());
            }
        }
        sameUnchanged("the first of two", -101, planner, () -> planner.read("A?A?BB"));
        sameUnchanged("a letter without a unit", -106, planner, () -> planner.read("AAABBBA"));
        sameUnchanged("another sign without a unit", -106, planner, () -> planner.read("AAABBB?"));
        sameUnchanged("80 letters", -106, planner, () -> planner.read("A".repeat(80)));
        sameUnchanged("no letter before no unit", -105, planner, () -> planner.read("AAABB?A"));
        Planner twelve = with(units(12), 2, 99);
        sameUnchanged("thirteen", -112, twelve, () -> twelve.read("A".repeat(13)));
        sameUnchanged("the twelfth", -111, twelve, () -> twelve.read("A".repeat(11) + "C"));
        // A fault comes before each reason.
        sameUnchanged("not contiguous", -105, planner, () -> planner.read("ABABA"));
        sameUnchanged("no units", -106, planner, () -> planner.read("AAAAAAA"));
    }

    private static void readTooShort() {
        promise(11, FAULT);
        Planner planner = planned(PATH6, 2, 99, "AAABBB");
        for (int length = 0; length < 6; length++) {
            String text = "AAABBB".substring(0, length);
            sameUnchanged("'" + text + "'", -100 - length, planner, () -> planner.read(text));
        }
        sameUnchanged("a wrong sign before the end", -101, planner, () -> planner.read("A?"));
        sameUnchanged("a wrong sign at the end", -104, planner, () -> planner.read("AAAB?"));
        Check.same("long enough", 0, planner.read("AAABBB"));
    }

    private static void move() {
        promise(12, "Returns the district to which it belonged");
        Planner planner = planned(PATH6, 3, 99, "AABBCC");
        moved(planner, 1, 1, 0, "ABBBCC");
        moved(planner, 3, 2, 1, "ABBCCC");
        moved(planner, 3, 1, 2, "ABBBCC");
        promise(12, "Throws `IndexOutOfBoundsException` if there is no such unit or district");
        Planner two = planned(PATH6, 2, 99, "AAABBB");
        for (int unit : NO_UNIT_OF_SIX) {
            failsUnchanged("move " + unit + " 0", INDEX, two, () -> two.move(unit, 0));
        }
        for (int district : NO_DISTRICT_OF_TWO) {
            failsUnchanged("move 2 " + district, INDEX, two, () -> two.move(2, district));
            failsUnchanged("move 6 " + district, INDEX, two, () -> two.move(6, district));
        }
        failsUnchanged("district 3 of three", INDEX, planner, () -> planner.move(0, 3));
        Planner four = planned(units(4), 4, 99, "ABCD");
        failsUnchanged("district 4 of four", INDEX, four, () -> four.move(0, 4));
        moveRefused(four, 0, 3, 5, 0);
        promise(12, "Throws `IllegalStateException` if there is no present plan");
        Planner none = mapped(PATH6);
        failsUnchanged("at first", STATE, none, () -> none.move(0, 0));
        failsUnchanged("at first", STATE, none, () -> none.move(5, 1));
        none.read("AAABBB");
        none.undo();
        failsUnchanged("behind undo", STATE, none, () -> none.move(2, 1));
        promise(12, "Throws `IllegalArgumentException` if it belongs to this district");
        for (int unit = 0; unit < 6; unit++) {
            int moved = unit;
            failsUnchanged("move " + unit, ARGUMENT, two, () -> two.move(moved, moved / 3));
        }
        promise(12, "Throws `UnsupportedOperationException` if the move is refused");
        moveRefused(two, 0, 1, 5, 0);
        moved(two, 2, 1, 0, "AABBBB");
        promise(12, "the reason is kept for refusal");
        refusalIs(two, "the refused one", 5, 0);
        moveRefused(two, 5, 0, 5, 5);
    }

    private static void swap() {
        promise(13, "Returns the district to which the first one belonged");
        Planner triangle = planned("u1/1;u1/1;u1/1;b0-1:1;b1-2:1;b0-2:1", 3, 99, "ABC");
        swapped(triangle, 0, 2, 0, "CBA");
        swapped(triangle, 0, 2, 2, "ABC");
        swapped(triangle, 1, 0, 1, "BAC");
        promise(13, "Throws `IndexOutOfBoundsException` if one of the units does not exist");
        Planner planner = planned(PATH6, 2, 99, "AAABBB");
        for (int unit : NO_UNIT_OF_SIX) {
            failsUnchanged("swap " + unit + " 0", INDEX, planner, () -> planner.swap(unit, 0));
            failsUnchanged("swap 5 " + unit, INDEX, planner, () -> planner.swap(5, unit));
            failsUnchanged("swap " + unit + " twice", INDEX, planner, () -> planner.swap(unit, unit));
        }
        promise(13, "Throws `IllegalStateException` if there is no present plan");
        Planner none = mapped(PATH6);
        failsUnchanged("at first", STATE, none, () -> none.swap(0, 0));
        failsUnchanged("at first", STATE, none, () -> none.swap(0, 5));
        promise(13, "Throws `IllegalArgumentException` if both belong to the same district");
        for (int unit = 0; unit < 6; unit++) {
            int same = unit;
            failsUnchanged("swap " + unit + " twice", ARGUMENT, planner, () -> planner.swap(same, same));
        }
        failsUnchanged("swap 0 2", ARGUMENT, planner, () -> planner.swap(0, 2));
        failsUnchanged("swap 5 3", ARGUMENT, planner, () -> planner.swap(5, 3));
        promise(13, "Throws `UnsupportedOperationException` if the swap is refused");
        swapRefused(planner, 2, 3, 2, 0);
        swapRefused(planner, 0, 5, 5, 0);
        promise(13, "the reason is kept for refusal");
        swapRefused(planner, 5, 0, 5, 5);
        swapRefused(planner, 3, 2, 2, 0);
    }

    private static void refuses() {
        promise(14, "Returns the reason, 0 if it is not refused");
        String square = "u1/1;u1/1;u1/1@2!;u1/1@2!;b0-1:1;b1-2:1;b2-3:1";
        refusesIs(planned("u1/1;u1/1;b0-1:1", 2, 99, "AB"), 0, 1, 1);
        refusesIs(planned(PATH6, 2, 99, "AAAABB"), 3, 1, 0);
        refusesIs(planned(PATH6 + ";b1-5:1", 2, 99, "AAAABB"), 1, 1, 2);
        refusesIs(planned(square, 2, 99, "AABB"), 2, 0, 3);
        refusesIs(planned(PATH6, 2, 33, "AAABBB"), 3, 0, 4);
        refusesIs(planned(PATH6, 2, 34, "AAABBB"), 3, 0, 0);
        refusesIs(planned(PATH6, 2, 99, "AAABBB"), 0, 1, 5);
        promise(14, "Throws `IndexOutOfBoundsException` as for move");
        Planner planner = planned(PATH6, 2, 99, "AAABBB");
        for (int unit : NO_UNIT_OF_SIX) {
            failsUnchanged("refuses " + unit + " 0", INDEX, planner, () -> planner.refuses(unit, 0));
        }
        for (int district : NO_DISTRICT_OF_TWO) {
            failsUnchanged("refuses 2 " + district, INDEX, planner, () -> planner.refuses(2, district));
        }
        promise(14, "Throws `IllegalStateException` as for move");
        Planner none = mapped(PATH6);
        failsUnchanged("at first", STATE, none, () -> none.refuses(0, 0));
        failsUnchanged("at first", STATE, none, () -> none.refuses(5, 1));
        promise(14, "Throws `IllegalArgumentException` as for move");
        failsUnchanged("refuses 0 0", ARGUMENT, planner, () -> planner.refuses(0, 0));
        failsUnchanged("refuses 5 1", ARGUMENT, planner, () -> planner.refuses(5, 1));
    }

    private static void refusesIs(Planner planner, int unit, int district, int reason) {
        sameUnchanged("refuses " + unit + " " + district, reason, planner, () -> planner.refuses(unit, district));
        Check.fails("nothing is kept", ELEMENT, () -> planner.refusal(false));
        boolean isRefused = Check.outcome(() -> planner.move(unit, district)).equals("UnsupportedOperationException");
        Check.same("move is refused", reason != 0, isRefused);
    }

    private static void refusal() {
        promise(15, "Returns the reason that was kept last by readPlan, move or swap");
        Planner planner = planned(PATH6, 2, 33, "AAABBB");
        planner.read("AAAABB");
        refusalIs(planner, "readPlan", 4, 0);
        Check.fails("move", UNSUPPORTED, () -> planner.move(5, 0));
        refusalIs(planner, "move", 5, 5);
        Check.fails("swap", UNSUPPORTED, () -> planner.swap(4, 1));
        refusalIs(planner, "swap", 5, 4);
        planner.read("BBBBBB");
        refusalIs(planner, "readPlan", 1, 0);
        Check.fails("swap", UNSUPPORTED, () -> planner.swap(2, 3));
        promise(15, "it stays until another one is kept");
        refusalIs(planner, "swap", 2, 0);
        planner.read("BBBAAA");
        planner.read("BBBAA");
        planner.read("BBBAA?");
        planner.setTolerance(99);
        planner.read("AAABBB");
        planner.move(2, 1);
        planner.refuses(5, 0);
        planner.improve(3);
        planner.possible(false);
        planner.possible(true);
        planner.undo();
        planner.saveSnapshot();
        planner.restoreSnapshot();
        Check.fails("extend", UNSUPPORTED, () -> planner.extend("o9:1"));
        Check.fails("swap", ARGUMENT, () -> planner.swap(0, 1));
        Check.fails("move", ARGUMENT, () -> planner.move(0, 0));
        Check.fails("move", INDEX, () -> planner.move(0, 2));
        planner.clearMap();
        refusalIs(planner, "swap", 2, 0);
        promise(15, "`isDetail`: false for the reason, true for the detail");
        readRefused(with("u1/1@3!;u1/1@3!", 2, 99), "AB", 3, 3);
        readRefused(with(units(3), 4, 99), "ABC", 1, 3);
        promise(15, "Throws `NoSuchElementException` if none was kept");
        Planner none = mapped(PATH6);
        failsUnchanged("at first", ELEMENT, none, () -> none.refusal(false));
        failsUnchanged("at first", ELEMENT, none, () -> none.refusal(true));
        none.read("AAABBB");
        none.read("AAABB");
        none.refuses(0, 1);
        Check.fails("move", ARGUMENT, () -> none.move(0, 0));
        failsUnchanged("behind refuses", ELEMENT, none, () -> none.refusal(true));
    }

    private static void districts(Planner planner, int what, int... due) {
        for (int d = 0; d < due.length; d++) {
            int district = d;
            sameUnchanged("district " + d + " " + what, due[d], planner, () -> planner.district(district, what));
        }
    }

    private static void district() {
        Planner ring = ring("AABB");
        Planner path = planned(PATH6 + ";o1:4;o5:9", 3, 99, "BBAACC");
        Planner most = planned(most(), 2, 99, "AAAAAAAAAAAB");
        Planner four = planned("u9/8@1;u8/7@2!;u7/6@3;u6/5@0!", 4, 99, "DBCA");
        promise(16, "`what`: 0 the number of its units");
        districts(path, 0, 2, 2, 2);
        districts(most, 0, 11, 1);
        districts(four, 0, 1, 1, 1, 1);
        promise(16, "1 the set of its units");
        districts(path, 1, 12, 3, 48);
        districts(most, 1, 2047, 2048);
        districts(four, 1, 8, 2, 4, 1);
        promise(16, "2 the population");
        districts(most, 2, 1089, 11);
        districts(four, 2, 6, 8, 7, 9);
        promise(16, "3 the area");
        districts(most, 3, 1089, 99);
        districts(four, 3, 5, 7, 6, 8);
        promise(16, "4 the perimeter");
        districts(ring, 4, 7, 4);
        districts(path, 4, 2, 5, 10);
        districts(most, 4, 9, 0);
        districts(four, 4, 0, 0, 0, 0);
        promise(16, "5 the set of districts with which it has a border");
        districts(ring, 5, 2, 1);
        districts(path, 5, 6, 1, 1);
        districts(most, 5, 0, 0);
        districts(four, 5, 0, 0, 0, 0);
        districts(planned("u1/1;u1/1;u1/1;u1/1;b0-3:1;b1-3:1;b2-3:1", 4, 99, "ABCD"), 5, 8, 8, 8, 7);
        promise(16, "6 the number of communities with units in it");
        districts(ring, 6, 1, 1);
        districts(path, 6, 0, 0, 0);
        districts(most, 6, 4, 0);
        districts(four, 6, 1, 1, 1, 1);
        districts(ring("AAAB"), 6, 2, 1);
        districtThrows();
    }

    /** Eleven great units in a row of four communities, and one without any border. */
    private static String most() {
        return "u99/99@0;u99/99@1;u99/99@2;u99/99@3;u99/99@0;u99/99@1;u99/99@2;u99/99@3;u99/99;u99/99;u99/99;u11/99"
                + ";b0-1:9;b1-2:9;b2-3:9;b3-4:9;b4-5:9;b5-6:9;b6-7:9;b7-8:9;b8-9:9;b9-10:9;o10:9";
    }

    private static void districtThrows() {
        Planner two = ring("AABB");
        promise(16, "Throws `IndexOutOfBoundsException` if there is no such district");
        for (int district : NO_DISTRICT_OF_TWO) {
            failsUnchanged("district " + district, INDEX, two, () -> two.district(district, 0));
            failsUnchanged("district " + district + " and what 7", INDEX, two, () -> two.district(district, 7));
        }
        Planner four = planned(units(4), 4, 10, "ABCD");
        Check.same("district 3 of four", 8, four.district(3, 1));
        failsUnchanged("district 4 of four", INDEX, four, () -> four.district(4, 1));
        promise(16, "Throws `IllegalArgumentException` if what is not valid");
        for (int what : new int[] {LEAST, -1, 7, 8, 32, 256, GREATEST}) {
            failsUnchanged("what " + what, ARGUMENT, two, () -> two.district(1, what));
        }
        Check.same("what 0", 2, two.district(1, 0));
        Check.same("what 6", 1, two.district(1, 6));
        promise(16, "Throws `IllegalStateException` if there is no present plan");
        Planner none = mapped(RING);
        for (int what = 0; what < 7; what++) {
            int asked = what;
            failsUnchanged("what " + what, STATE, none, () -> none.district(1, asked));
        }
        Check.fails("an empty map", STATE, () -> empty().district(0, 0));
    }

    private static void letter() {
        promise(32, "Returns a letter of the present plan, in upper case, as readPlan reads it");
        Planner four = with(units(4), 4, 10);
        four.read("dbca");
        for (int u = 0; u < 4; u++) {
            int unit = u;
            sameUnchanged("letter " + u, "DBCA".charAt(u), four, () -> four.letter(unit));
        }
        Planner again = with(units(4), 4, 10);
        again.read("" + four.letter(0) + four.letter(1) + four.letter(2) + four.letter(3));
        Check.same("read again", "DBCA", again.plan());
        promise(32, "Throws `IndexOutOfBoundsException` if there is no such unit");
        Planner planner = ring("AABB");
        for (int unit : new int[] {LEAST, -1, 4, 5, 12, 32, GREATEST}) {
            failsUnchanged("letter " + unit, INDEX, planner, () -> planner.letter(unit));
        }
        Check.fails("an empty map", INDEX, () -> empty().letter(0));
        Check.same("the first", 'A', planner.letter(0));
        Check.same("the last", 'B', planner.letter(3));
        promise(32, "Throws `IllegalStateException` if there is no present plan");
        Planner none = mapped(RING);
        failsUnchanged("at first", STATE, none, () -> none.letter(0));
        failsUnchanged("at first", STATE, none, () -> none.letter(3));
        planner.setTolerance(99);
        failsUnchanged("behind setTolerance", STATE, planner, () -> planner.letter(0));
    }
}
