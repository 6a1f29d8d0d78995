/** The boundary cases of measures and of improving: the description, and the promises 17 to 20. */
final class MeasureBoundaries extends Bench {
    private static final int[] NO_MEASURE = {LEAST, -1, 4, 5, 32, 256, GREATEST};

    private MeasureBoundaries() {
    }

    static void run() {
        perimeters();
        measures();
        better();
        fractions();
        steps();
        measure();
        meanCompactness();
        improve();
        possible();
    }

    private static void weighs(Planner planner, int measure, String due) {
        sameUnchanged("numerator of " + measure, Long.valueOf(due.substring(0, due.indexOf('/'))), planner,
                () -> planner.measure(measure, false));
        sameUnchanged("denominator of " + measure, Long.valueOf(due.substring(due.indexOf('/') + 1)), planner,
                () -> planner.measure(measure, true));
    }

    private static void improved(Planner planner, int measure, int steps, String plan) {
        Check.same("improve " + measure, steps, planner.improve(measure));
        Check.same("plan behind improve " + measure, plan, planner.plan());
    }

    /** Units of area 1, 2, 3 .. without borders, with these outer lengths, each in a district of its own. */
    private static Planner apart(int... outer) {
        StringBuilder text = new StringBuilder();
        for (int u = 0; u < outer.length; u++) {
            text.append(u == 0 ? "" : ";").append("u1/" + (u + 1) + ";o" + u + ":" + outer[u]);
        }
        return planned(text.toString(), outer.length, 99, "ABCD".substring(0, outer.length));
    }

    // ---- "Measures"

    private static void perimeters() {
        description("The perimeter of a district is the sum of the outer lengths of its units and of the lengths of its "
                + "borders with other districts");
        Planner none = planned(units(3) + ";b0-1:9", 2, 99, "AAB");
        Check.same("only a border within", 0, none.district(0, 4));
        Check.same("nothing", 0, none.district(1, 4));
        Planner planner = planned(units(4) + ";b0-1:9;b1-2:1;b2-3:8;b0-3:2;b0-2:4;o0:9;o3:7", 3, 99, "AABC");
        Check.same("A", 9 + 1 + 2 + 4, planner.district(0, 4));
        Check.same("B", 1 + 8 + 4, planner.district(1, 4));
        Check.same("C", 7 + 8 + 2, planner.district(2, 4));
        Planner star = planned(units(12) + ";o11:9;b11-0:9;b11-1:9;b11-2:9;b11-3:9;b11-4:9;b11-5:9;b11-6:9;b11-7:9"
                + ";b11-8:9;b11-9:9;b11-10:9;b0-1:1;b1-2:1;b2-3:1;b3-4:1;b4-5:1;b5-6:1;b6-7:1;b7-8:1;b8-9:1;b9-10:1",
                2, 99, "AAAAAAAAAAAB");
        Check.same("the most of one unit", 108, star.district(1, 4));
        Check.same("all others", 99, star.district(0, 4));
        description("The compactness of a district is 16 times its area, divided by the square of its perimeter, or 0 "
                + "if that is 0");
        weighs(apart(4, 4), 0, "1/1");
        weighs(apart(1, 1), 0, "16/1");
        weighs(apart(0, 0), 0, "0/1");
        weighs(apart(0, 1), 0, "0/1");
        weighs(apart(1, 0), 0, "0/1");
        weighs(apart(9, 9), 0, "16/81");
        weighs(planned("u1/99;u1/99;o0:1;o1:1", 2, 99, "AB"), 0, "1584/1");
    }

    private static void measures() {
        description("0: the least compactness of a district");
        weighs(apart(9, 1, 1, 1), 0, "16/81");
        weighs(apart(1, 9, 1, 1), 0, "32/81");
        weighs(apart(1, 1, 9, 1), 0, "16/27");
        weighs(apart(1, 1, 1, 9), 0, "64/81");
        weighs(apart(1, 1, 1, 0), 0, "0/1");
        weighs(apart(7, 7, 8), 0, "16/49");
        description("1: the sum of the lengths of all borders between different districts");
        weighs(apart(9, 9), 1, "0/1");
        weighs(planned(units(3) + ";b0-1:9", 2, 99, "AAB"), 1, "0/1");
        weighs(planned(units(3) + ";b0-1:9;b1-2:1;o2:5", 2, 99, "AAB"), 1, "1/1");
        weighs(planned(units(4) + ";b0-1:1;b0-2:2;b0-3:3;b1-2:4;b1-3:5;b2-3:6", 4, 99, "ABCD"), 1, "21/1");
        weighs(planned(units(4) + ";b0-1:1;b0-2:2;b0-3:3;b1-2:4;b1-3:5;b2-3:6", 2, 99, "AABB"), 1, "14/1");
        weighs(planned(units(4) + ";b0-1:1;b0-2:2;b0-3:3;b1-2:4;b1-3:5;b2-3:6", 3, 99, "ABCA"), 1, "18/1");
        description("2: the number of communities with units in different districts");
        weighs(planned(units(2), 2, 99, "AB"), 2, "0/1");
        weighs(planned("u1/1@0!;u1/1@1!", 2, 99, "AB"), 2, "0/1");
        weighs(planned("u1/1@0!;u1/1@0", 2, 99, "AB"), 2, "1/1");
        weighs(planned("u1/1@3;u1/1@3", 2, 99, "AB"), 2, "1/1");
        weighs(planned("u1/1@3;u1/1@3;u1/1@3", 3, 99, "ABC"), 2, "1/1");
        weighs(planned("u1/1@0;u1/1@1;u1/1@1;u1/1@0;b0-1:1;b2-3:1", 2, 99, "AABB"), 2, "2/1");
        weighs(planned("u1/1@0;u1/1@1;u1/1@2;u1/1@3;u1/1@3;u1/1@2;u1/1@1;u1/1@0;b0-1:1;b1-2:1;b2-3:1;b4-5:1;b5-6:1"
                + ";b6-7:1", 2, 99, "AAAABBBB"), 2, "4/1");
        weighs(planned("u1/1@0;u1/1@0;u1/1@1;u1/1@1;b0-1:1;b2-3:1", 2, 99, "AABB"), 2, "0/1");
        description("3: the greatest absolute difference of the population of a district times the number of districts "
                + "and the population of the map, divided by the population of the map");
        weighs(planned(units(2), 2, 0, "AB"), 3, "0/1");
        weighs(planned("u3/1;u2/1", 2, 99, "AB"), 3, "1/5");
        weighs(planned("u2/1;u3/1", 2, 99, "AB"), 3, "1/5");
        weighs(planned("u1/1;u1/1;u3/1", 3, 99, "ABC"), 3, "4/5");
        weighs(planned("u3/1;u1/1;u1/1", 3, 99, "ABC"), 3, "4/5");
        weighs(planned("u3/1;u3/1;u1/1", 3, 99, "ABC"), 3, "4/7");
        weighs(planned("u1/1;u3/1;u3/1", 3, 99, "ABC"), 3, "4/7");
        weighs(planned("u99/1;u99/1;u1/1;u1/1;b0-1:1;b1-2:1", 2, 99, "AAAB"), 3, "99/100");
    }

    private static void better() {
        description("By the measure 0, a plan is better than another one if its measure is greater, by the others if it "
                + "is less");
        String row = "u2/9@1;u1/9@0;u1/9@0;b0-1:2;b1-2:3";
        for (int measure = 0; measure < 4; measure++) {
            Planner worse = planned(row, 2, 99, "AAB");
            Planner better = planned(row, 2, 99, "ABB");
            long worseTop = worse.measure(measure, false) * better.measure(measure, true);
            long betterTop = better.measure(measure, false) * worse.measure(measure, true);
            Check.same("measure " + measure + " is greater", measure == 0, betterTop > worseTop);
            improved(worse, measure, 1, "ABB");
            improved(better, measure, 0, "ABB");
            Check.same("the best by measure " + measure, 1, better.best(measure));
            Check.same("unit 1 in the best plan", 1, better.planned(1, 1));
        }
    }

    private static void fractions() {
        description("Fractions are told in lowest terms with a positive denominator");
        weighs(apart(2, 2), 0, "4/1");
        weighs(apart(6, 4), 0, "4/9");
        weighs(planned("u6/1;u4/1", 2, 99, "AB"), 3, "1/5");
        weighs(planned("u99/1;u33/1", 2, 99, "AB"), 3, "1/2");
        weighs(planned("u99/1;u98/1", 2, 99, "AB"), 3, "1/197");
        weighs(planned("u99/99;u99/99;o0:1;o1:1", 2, 99, "AB"), 0, "1584/1");
        Planner least = leastCompact();
        Check.same("numerator", 8L, least.measure(0, false));
        Check.same("denominator", 11907L, least.measure(0, true));
        Check.same("cut", 324L, least.measure(1, false));
        Planner greatest = planned("u99/99;u99/99;u99/99;u99/99;u99/99;u99/99;u99/99;u99/99;u99/99;u99/99;u99/99;u22/99"
                + ";b0-1:1;b1-2:1;b2-3:1;b3-4:1;b4-5:1;b5-6:1;b6-7:1;b7-8:1;b8-9:1;b9-10:1;o10:1;o11:1",
                2, 99, "AAAAAAAAAAAB");
        Check.same("the compactness of B is less", 1584L, greatest.measure(0, false));
        Check.same("mean", (17424f + 1584f) / 2f, greatest.meanCompactness());
        description("the denominator of 0 is 1");
        weighs(apart(0, 5), 0, "0/1");
        weighs(apart(5, 5), 1, "0/1");
        weighs(apart(5, 5), 2, "0/1");
        weighs(planned("u7/1;u7/1", 2, 99, "AB"), 3, "0/1");
    }

    // ---- "Improving"

    private static final String STEP = "A step by a measure looks at all moves that are not refused, in ascending order "
            + "of the units, then of the districts, and then at all swaps of two units that are not refused, in "
            + "ascending order of the lower unit, then of the greater one";

    private static Planner all(String units, int districts, String plan) {
        Planner planner = complete(units);
        if (districts != 2) {
            planner.setDistricts(districts);
        }
        planner.setTolerance(99);
        Check.same("readPlan " + plan, 0, planner.read(plan));
        return planner;
    }

    private static void steps() {
        description(STEP);
        // The moves of 0, 1 and 2 are equally good.
        improved(all(units(4), 2, "AAAB"), 3, 1, "BAAB");
        improved(all(units(4), 2, "ABBB"), 3, 1, "AABB");
        // The moves of 0 to B and to C are equally good, and so are those of 1 and 2.
        improved(all(units(5), 3, "AAABC"), 3, 1, "BAABC");
        improved(all(units(5), 3, "CBAAA"), 3, 1, "CBBAA");
        // The order is that of the units, not of the districts.
        improved(all(units(5), 3, "BBBCA"), 3, 1, "ABBCA");
        Planner without = all(units(5), 3, "BBBCA");
        without.extend("b0-4:0");
        without.read("BBBCA");
        improved(without, 3, 1, "CBBCA");
        // The move of 2 and the swap of 0 and 3 are equally good.
        improved(all("u3/1;u2/1;u1/1;u2/1;u2/1", 2, "AAABB"), 3, 1, "AABBB");
        // The swaps of 0 and 2 and of 1 and 3 are equally good, and better than any move.
        improved(all("u1/1;u2/1;u3/1;u4/1", 2, "AABB"), 3, 1, "BAAB");
        // The swaps of 0 with 2 and with 3 and of 1 with 2 and with 3 are equally good.
        improved(all("u1/1;u2/1;u3/1;u3/1", 2, "AABB"), 3, 1, "BAAB");
        improved(all("u3/1;u3/1;u1/1;u2/1", 2, "AABB"), 3, 1, "BAAB");
        stepsNotRefused();
        description("The first one of all these moves and swaps whose plan none of the others is better than is done if "
                + "its plan is better than the present one");
        improved(all("u1/1;u2/1;u3/1;u2/1", 2, "AAAB"), 3, 1, "ABAB");
        improved(all("u1/1;u3/1;u2/1;u2/1", 2, "AAAB"), 3, 1, "AABB");
        improved(all("u1/1;u5/1;u4/1;u2/1", 2, "AABB"), 3, 0, "AABB");
        improved(all("u1/1;u6/1;u3/1;u2/1", 2, "AABB"), 3, 1, "BABB");
        // The only moves and swaps lead to plans that are as good as the present one, or there are none.
        improved(planned("u1/1;u1/1;u1/1;b0-1:1;b1-2:1", 2, 99, "AAB"), 3, 0, "AAB");
        improved(planned("u1/1;u1/1;b0-1:1", 2, 99, "AB"), 3, 0, "AB");
        improved(planned("u1/1;u1/1;b0-1:1", 2, 99, "AB"), 0, 0, "AB");
        improved(planned(units(2), 2, 99, "AB"), 0, 0, "AB");
        // Each one is worse than the present plan.
        improved(planned(PATH6, 2, 99, "AAABBB"), 3, 0, "AAABBB");
    }

    private static void stepsNotRefused() {
        description(STEP);
        // To move 2 would be best, but 1 and 2 are cores of one community.
        improved(all("u1/1;u3/1@0!;u2/1@0!;u2/1", 2, "AAAB"), 3, 1, "BAAB");
        // To move 0 would be best, but it would cut 1, 2 and 3 off from each other.
        improved(planned("u2/1;u1/1;u1/1;u1/1;u1/1;b0-1:1;b0-2:1;b0-3:1;b0-4:1;b3-4:1", 2, 99, "AAAAB"), 3, 1, "AAABB");
        // Only a swap is lawful, since no move leaves the districts balanced.
        Planner balanced = all("u9/1@0;u9/1@1;u9/1@0;u9/1@1", 2, "AABB");
        balanced.setTolerance(0);
        balanced.read("AABB");
        improved(balanced, 2, 1, "BABA");
        improved(balanced, 2, 0, "BABA");
        improved(planned("u1/1@0;u1/1@1;u1/1@1;u1/1@0;b0-1:1;b2-3:1;b0-2:1;b1-3:1", 2, 0, "AABB"), 2, 0, "AABB");
        // To swap 0 and 1 would be best, but 1 has no neighbor in A.
        improved(planned("u1/1;u4/1;u1/1;u2/1;b0-2:1;b1-2:1;b2-3:1", 2, 99, "ABBB"), 3, 0, "ABBB");
        improved(planned("u1/1;u4/1;u1/1;u2/1;b0-2:1;b1-2:1;b2-3:1;b0-1:1", 2, 99, "ABBB"), 3, 1, "BABB");
        improved(planned("u1/1@0;u1/1@1;u1/1@0;u1/1@1;b0-1:1;b2-3:1;b0-2:1;b1-3:1", 2, 0, "AABB"), 2, 1, "BABA");
    }

    // ---- promises 17 to 20

    private static void measure() {
        promise(17, "`isDenominator`: false for the numerator, true for the denominator");
        Planner planner = ring("AABB");
        weighs(planner, 0, "128/49");
        weighs(planner, 1, "4/1");
        weighs(planner, 2, "0/1");
        weighs(planner, 3, "0/1");
        weighs(ring("AAAB"), 3, "1/2");
        promise(17, "Throws `IllegalArgumentException` if there is no such measure");
        for (int measure : NO_MEASURE) {
            failsUnchanged("measure " + measure, ARGUMENT, planner, () -> planner.measure(measure, false));
            failsUnchanged("measure " + measure, ARGUMENT, planner, () -> planner.measure(measure, true));
        }
        promise(17, "Throws `IllegalStateException` if there is no present plan");
        Planner none = mapped(RING);
        for (int measure = 0; measure < 4; measure++) {
            int asked = measure;
            failsUnchanged("measure " + measure, STATE, none, () -> none.measure(asked, false));
            failsUnchanged("measure " + measure, STATE, none, () -> none.measure(asked, true));
        }
        Check.fails("an empty map", STATE, () -> empty().measure(0, false));
    }

    /** Single units with these areas and outer lengths in districts of their own. */
    private static Planner singles(int[] areas, int[] outer, String plan) {
        StringBuilder text = new StringBuilder();
        for (int u = 0; u < areas.length; u++) {
            text.append(u == 0 ? "" : ";").append("u1/" + areas[u] + ";o" + u + ":" + outer[u]);
        }
        return planned(text.toString(), areas.length, 99, plan);
    }

    private static float mean(int[] areas, int[] outer) {
        float sum = 0;
        for (int d = 0; d < areas.length; d++) {
            sum = sum + (outer[d] == 0 ? 0f : (float) (16 * areas[d]) / (float) (outer[d] * outer[d]));
        }
        return sum / (float) areas.length;
    }

    private static void meanCompactness() {
        promise(18, "Returns the mean compactness of the districts of the present plan: the compactness of each district "
                + "is 16 times its area, divided by the square of the perimeter, both as floats, or 0");
        Check.same("both 0", 0f, apart(0, 0).meanCompactness());
        Check.same("one is 0", 16f, apart(0, 1).meanCompactness());
        Check.same("the other one is 0", 8f, apart(1, 0).meanCompactness());
        Check.same("a third", (16f / 9f + 32f / 49f) / 2f, apart(3, 7).meanCompactness());
        Check.same("ring", (128f / 49f + 4f) / 2f, ring("AABB").meanCompactness());
        Check.same("the greatest", 1584f, planned("u1/99;u1/99;o0:1;o1:1", 2, 99, "AB").meanCompactness());
        Check.same("the least", (96f / 142884f + 9504f / 104976f) / 2f, leastCompact().meanCompactness());
        promise(18, "these are added up in ascending order of the districts, as floats, and divided by the number of "
                + "districts as a float");
        // In another order, in doubles, or divided one by one, the last bit would be another one.
        int[][] areas = {{38, 60, 94, 71}, {5, 7, 81, 92}, {36, 93, 9, 82}, {1, 9, 45}, {94, 68, 71}, {67, 36, 88}};
        int[][] outer = {{2, 7, 3, 6}, {5, 5, 3, 3}, {4, 3, 5, 1}, {3, 8, 7}, {6, 7, 1}, {5, 5, 2}};
        float[] due = {92.56462f, 78.80888f, 379.77332f, 6.2405515f, 399.99393f, 139.30666f};
        for (int i = 0; i < due.length; i++) {
            Planner planner = singles(areas[i], outer[i], "ABCD".substring(0, areas[i].length));
            sameUnchanged("mean", due[i], planner, planner::meanCompactness);
            Check.same("mean, by its order", mean(areas[i], outer[i]), planner.meanCompactness());
        }
        Planner turned = singles(new int[] {71, 94, 60, 38}, new int[] {6, 3, 7, 2}, "DCBA");
        Check.same("the order of the districts, not of the units", 92.56462f, turned.meanCompactness());
        promise(18, "Throws `IllegalStateException` if there is no present plan");
        Planner none = mapped(RING);
        failsUnchanged("at first", STATE, none, none::meanCompactness);
        Check.fails("an empty map", STATE, () -> empty().meanCompactness());
        turned.setDistricts(4);
        failsUnchanged("behind setDistricts", STATE, turned, turned::meanCompactness);
    }

    private static final String FAR = "u2/41;u1/11;u1/69;u73/51;u35/28;u63/27;u6/62;u2/83;u1/25;u23/96;u5/19;u1/55;o0:9;"
            + "o1:4;o2:8;o3:4;o4:2;o5:6;o6:5;o7:9;o8:1;o9:6;o10:4;o11:7;b0-1:3;b0-2:9;b1-2:8;b2-3:1;b1-4:3;b4-5:7;b0-6:8;"
            + "b4-6:4;b0-7:1;b1-7:4;b5-7:5;b2-8:8;b5-8:3;b7-8:8;b1-9:7;b3-9:2;b5-9:9;b7-9:6;b8-9:3;b0-10:2;b2-10:3;"
            + "b3-10:6;b8-10:1;b1-11:8;b2-11:1;b4-11:7;b8-11:9;b10-11:9";
    private static final String CUTS = units(12) + ";b0-1:7;b1-3:3;b2-3:2;b0-4:1;b3-4:2;b1-5:2;b2-5:2;b3-5:9;b4-6:2;b5-6:2;"
            + "b1-7:9;b3-7:4;b4-7:4;b5-7:4;b6-7:5;b1-8:8;b2-8:5;b4-8:2;b5-8:7;b6-8:4;b0-9:8;b1-9:1;b4-9:3;b5-9:4;b6-9:5;"
            + "b8-9:4;b0-10:5;b1-10:3;b3-10:9;b4-10:7;b5-10:1;b6-10:7;b7-10:1;b1-11:6;b3-11:4;b5-11:5;b7-11:9;b8-11:3;"
            + "b10-11:1";
    private static final String PEOPLE = "u4/1;u69/1;u17/1;u92/1;u65/1;u73/1;u71/1;u43/1;u83/1;u66/1;u37/1;u71/1;b1-2:4;"
            + "b0-3:7;b2-3:3;b1-4:9;b0-5:6;b0-6:4;b4-6:6;b5-6:1;b1-7:4;b3-7:8;b4-7:8;b5-7:7;b6-7:3;b2-8:9;b3-8:4;b4-8:4;"
            + "b5-8:6;b6-8:4;b7-8:6;b0-9:8;b1-9:3;b2-9:3;b3-9:1;b4-9:8;b5-9:4;b6-9:5;b1-10:3;b2-10:7;b3-10:6;b6-10:2;"
            + "b7-10:5;b0-11:2;b2-11:7;b3-11:3;b4-11:9;b5-11:4;b8-11:5;b9-11:6";

    private static void improve() {
        promise(19, "Improves the present plan by steps, until a step does nothing, or 20 steps were done");
        // A way of 24 steps on maps that were searched for; it is entered at its beginning and later.
        String[] plans = {"CCAACDBADACD", "CCCADDBADADD", "CCCADDBDDAAD", "CCCADDBDDCAD", "BBBADCBCCCAA"};
        int[] ways = {24, 21, 20, 19, 5};
        for (int i = 0; i < ways.length; i++) {
            Planner planner = planned(FAR, 4, 99, plans[i]);
            String first = ways[i] == 24 ? "BCBADCBCCCAA" : ways[i] == 21 ? "BCCADCBCCCCC" : "CCCADCBCCCCC";
            improved(planner, 0, Math.min(ways[i], 20), first);
            improved(planner, 0, Math.max(ways[i] - 20, 0), "CCCADCBCCCCC");
            improved(planner, 0, 0, "CCCADCBCCCCC");
        }
        Planner cuts = planned(CUTS, 3, 99, "BBACBAABCCAC");
        improved(cuts, 1, 20, "BACABABAABBA");
        improved(cuts, 1, 0, "BACABABAABBA");
        Planner people = planned(PEOPLE, 4, 99, "ACDAAACBCCAA");
        improved(people, 3, 20, "DABDCBCABACD");
        improved(people, 3, 2, "DCBDADCABACB");
        people.undo();
        people.undo();
        Check.same("all steps of a call are undone at once", "ACDAAACBCCAA", people.plan());
        promise(19, "Returns the number of steps that were done");
        Planner path = planned(PATH6, 2, 99, "AAAAAB");
        improved(path, 3, 2, "AAABBB");
        improved(path, 3, 0, "AAABBB");
        promise(19, "Throws `IllegalArgumentException` if there is no such measure");
        Planner ring = ring("AABB");
        for (int measure : NO_MEASURE) {
            failsUnchanged("improve " + measure, ARGUMENT, ring, () -> ring.improve(measure));
        }
        Check.same("improve 0", 1, ring.twin().improve(0));
        Check.same("improve 3", 0, ring.twin().improve(3));
        promise(19, "Throws `IllegalStateException` if there is no present plan");
        Planner none = mapped(RING);
        for (int measure = 0; measure < 4; measure++) {
            int asked = measure;
            failsUnchanged("improve " + measure, STATE, none, () -> none.improve(asked));
        }
        Check.fails("an empty map", STATE, () -> empty().improve(3));
    }

    private static void possibleIs(Planner planner, int moves, int swaps) {
        sameUnchanged("moves", moves, planner, () -> planner.possible(false));
        sameUnchanged("swaps", swaps, planner, () -> planner.possible(true));
    }

    private static void possible() {
        promise(20, "Returns the number of moves or swaps that are not refused");
        possibleIs(planned(units(2), 2, 99, "AB"), 0, 0);
        possibleIs(planned(PATH6, 2, 33, "AAABBB"), 0, 0);
        possibleIs(planned(PATH6, 2, 34, "AAABBB"), 2, 0);
        possibleIs(planned(PATH6, 2, 99, "AAAAAB"), 1, 0);
        possibleIs(planned(PATH6, 3, 99, "AABBCC"), 4, 0);
        possibleIs(all(units(4), 2, "AABB"), 4, 4);
        possibleIs(all(units(4), 2, "AAAB"), 3, 3);
        possibleIs(all(units(5), 3, "AABBC"), 8, 8);
        possibleIs(all(units(4), 4, "ABCD"), 0, 6);
        possibleIs(all("u1/1@0!;u1/1@0!;u1/1;u1/1", 2, "AABB"), 2, 0);
        possibleIs(all("u1/1@0!;u1/1@0!;u1/1@1!;u1/1@1!", 2, "AABB"), 0, 0);
        promise(20, "a swap of two units is one");
        possibleIs(planned("u1/1;u1/1;b0-1:1", 2, 99, "AB"), 0, 1);
        possibleIs(planned("u1/1;u1/1;u1/1;b0-1:1;b1-2:1", 3, 99, "CAB"), 0, 2);
        promise(20, "Throws `IllegalStateException` if there is no present plan");
        Planner none = mapped(RING);
        failsUnchanged("moves", STATE, none, () -> none.possible(false));
        failsUnchanged("swaps", STATE, none, () -> none.possible(true));
        Check.fails("an empty map", STATE, () -> empty().possible(true));
    }
}
