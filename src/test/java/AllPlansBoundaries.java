/** The boundary cases of all plans of small maps: the description, and the promises 21 to 25. */
final class AllPlansBoundaries extends Bench {
    private static final String ALL_OF_FOUR_IN_TWO = "AAAB AABA AABB ABAA ABAB ABBA ABBB ";

    private AllPlansBoundaries() {
    }

    static void run() {
        numbered();
        moreDistrictsThanUnits();
        plans();
        counted();
        planned();
        best();
        choose();
    }

    private static Planner with(Planner planner, int districts, int tolerance) {
        if (districts != 2) {
            planner.setDistricts(districts);
        }
        planner.setTolerance(tolerance);
        return planner;
    }

    private static Planner complete(int units, int districts, int tolerance) {
        return with(complete(units(units)), districts, tolerance);
    }

    private static String list(Planner planner) {
        StringBuilder listed = new StringBuilder();
        Planner twin = planner.twin();
        int plans = twin.plans();
        int units = twin.count(0);
        for (int number = 0; number < plans; number++) {
            for (int u = 0; u < units; u++) {
                listed.append((char) ('A' + twin.planned(number, u)));
            }
            listed.append(' ');
        }
        return listed.toString();
    }

    /** All plans, in the order of their numbers; they are as many as both ways of counting say. */
    private static void lists(Planner planner, String due) {
        Check.same("list", due, list(planner));
        int plans = due.isEmpty() ? 0 : due.split(" ").length;
        sameUnchanged("plans", plans, planner, planner::plans);
        sameUnchanged("counted", plans, planner, planner::counted);
    }

    // ---- "All plans"

    private static final String NUMBERED = "For maps with 1 to 9 units, the lawful plans whose districts are numbered in "
            + "the order of their lowest units are numbered from 0 in ascending order of the district of unit 0, then of "
            + "unit 1, and so on";

    private static void numbered() {
        description(NUMBERED);
        lists(complete(2, 2, 99), "AB ");
        lists(with(mapped(units(2)), 2, 99), "AB ");
        lists(complete(3, 2, 99), "AAB ABA ABB ");
        lists(complete(3, 3, 99), "ABC ");
        lists(complete(4, 2, 99), ALL_OF_FOUR_IN_TWO);
        lists(complete(4, 3, 99), "AABC ABAC ABBC ABCA ABCB ABCC ");
        lists(complete(4, 4, 99), "ABCD ");
        lists(complete(5, 4, 99), "AABCD ABACD ABBCD ABCAD ABCBD ABCCD ABCDA ABCDB ABCDC ABCDD ");
        // Lawful ones only: contiguous, with cores together, balanced.
        lists(with(mapped(units(4) + ";b0-1:1;b1-2:1;b2-3:1"), 2, 99), "AAAB AABB ABBB ");
        lists(with(mapped(units(4) + ";b0-3:1;b3-1:1;b1-2:1"), 2, 99), "AABA ABBA ABBB ");
        lists(with(mapped(units(3)), 2, 99), "");
        lists(complete(4, 2, 0), "AABB ABAB ABBA ");
        lists(with(complete("u1/1@2!;u1/1;u1/1;u1/1@2!"), 2, 99), "AABA ABAA ABBA ");
        lists(with(complete("u1/1@2!;u1/1;u1/1;u1/1@2"), 2, 99), ALL_OF_FOUR_IN_TWO);
        lists(with(complete("u1/1@0!;u1/1@1!;u1/1@1!;u1/1@0!"), 2, 99), "ABBA ");
        lists(with(complete("u1/1;u1/1;u3/1"), 2, 20), "AAB ");
        lists(with(complete("u1/1;u1/1;u3/1"), 2, 19), "");
        lists(with(mapped(units(9) + ";b0-1:1;b1-2:1;b2-3:1;b3-4:1;b4-5:1;b5-6:1;b6-7:1;b7-8:1"), 4, 40),
                "AAABBCCDD AABBBCCDD AABBCCCDD AABBCCDDD ");
        numberOfUnits();
    }

    private static void numberOfUnits() {
        description(NUMBERED);
        lists(mapped("u1/1"), "");
        lists(with(mapped("u1/1;u1/1;u2/1;u3/1;u4/1;u5/1;u6/1;u7/1;u8/1;b0-1:1;b1-2:1;b2-3:1;b3-4:1;b4-5:1;b5-6:1;b6-7:1"
                + ";b7-8:1"), 2, 99), "AAAAAAAAB AAAAAAABB AAAAAABBB AAAAABBBB AAAABBBBB AAABBBBBB AABBBBBBB ABBBBBBBB ");
        for (Planner planner : new Planner[] {empty(), mapped(units(10)), mapped(units(11)), mapped(units(12))}) {
            failsUnchanged("plans", STATE, planner, planner::plans);
        }
    }

    private static void moreDistrictsThanUnits() {
        description("with more districts than units there are none");
        for (int districts = 2; districts <= 4; districts++) {
            for (int units = 1; units < districts; units++) {
                Planner planner = complete(units, districts, 99);
                lists(planner, "");
                Check.fails("planned", ELEMENT, () -> planner.planned(0, 0));
                Check.fails("best", ELEMENT, () -> planner.best(0));
                Check.fails("choose", ELEMENT, () -> planner.choose(0));
            }
            lists(complete(districts, districts, 99), "ABCD".substring(0, districts) + " ");
        }
    }

    // ---- promises 21 to 25

    private static final String BAD_SIZE = "Throws `IllegalStateException` if the map has no units or more than 9";

    private static void plans() {
        promise(21, "Returns the number of all plans");
        Check.same("one unit", 0, mapped("u1/1").plans());
        Check.same("nine units in four districts", 6930, complete(9, 4, 99).plans());
        Check.same("nine units in three districts", 2737, complete(9, 3, 99).plans());
        Check.same("nine units in two districts", 255, complete(9, 2, 99).plans());
        Check.same("nine units, balanced", 0, complete(9, 4, 11).plans());
        Check.same("nine units, balanced", 1260, complete(9, 4, 34).plans());
        plansBehindChanges();
        promise(21, BAD_SIZE);
        badSizes("plans", Planner::plans);
    }

    private interface Asked {
        Object of(Planner planner);
    }

    /** The call is refused for 0, 10, 11 and 12 units, and not for 1 and 9. */
    private static void badSizes(String name, Asked call) {
        for (int size : new int[] {0, 10, 11, 12}) {
            Planner planner = size == 0 ? empty() : mapped(units(size));
            failsUnchanged(name + " of " + size + " units", STATE, planner, () -> call.of(planner));
        }
        Planner cleared = planned(PATH6, 2, 99, "AAABBB");
        cleared.clearMap();
        failsUnchanged(name + " behind clearMap", STATE, cleared, () -> call.of(cleared));
        for (int size : new int[] {1, 9}) {
            Planner planner = mapped(units(size));
            boolean isRefused = Check.outcome(() -> call.of(planner)).equals("IllegalStateException");
            Check.same(name + " of " + size + " units is refused", false, isRefused);
        }
    }

    /** The number is always that of the map, the number of districts and the tolerance as they are now. */
    private static void plansBehindChanges() {
        promise(21, "Returns the number of all plans");
        Planner planner = mapped(units(4) + ";b0-1:1;b1-2:1;b2-3:1");
        countsBoth(planner, 1);
        planner.setTolerance(99);
        countsBoth(planner, 3);
        planner.saveSnapshot();
        planner.setDistricts(3);
        countsBoth(planner, 3);
        planner.setDistricts(4);
        countsBoth(planner, 1);
        planner.extend("u1/1");
        countsBoth(planner, 3);
        planner.extend("b3-4:1");
        countsBoth(planner, 4);
        planner.undo();
        countsBoth(planner, 3);
        planner.undo();
        countsBoth(planner, 1);
        planner.undo();
        countsBoth(planner, 3);
        planner.extend("b0-3:1");
        countsBoth(planner, 4);
        planner.restoreSnapshot();
        countsBoth(planner, 3);
        planner.extend("b1-2:0");
        countsBoth(planner, 1);
        planner.clearMap();
        planner.extend(units(2));
        countsBoth(planner, 1);
        planner.read("BA");
        countsBoth(planner, 1);
        listsBehindChanges();
    }

    private static Planner warm() {
        Planner planner = mapped("u1/1;u1/1;u1/1;u3/1;b0-1:3;b1-2:2;b2-3:1");
        planner.saveSnapshot();
        planner.setTolerance(99);
        return planner;
    }

    /** What was asked before a change leaves nothing behind: the answer is that of an object that is asked first. */
    private static void listsBehindChanges() {
        promise(21, "Returns the number of all plans");
        Asked[] questions = {
            Planner::plans, Planner::counted, p -> p.best(1), p -> p.best(3), p -> p.planned(0, 2), p -> p.planned(0, 3),
            p -> p.planned(1, 1), p -> p.planned(2, 1),
        };
        Asked[] changes = {
            p -> p.setTolerance(0), p -> p.setDistricts(3), p -> p.extend("b0-3:9"), p -> p.extend("b1-2:0"),
            p -> p.extend("u1/1"), Planner::clearMap, Planner::undo, Planner::restoreSnapshot,
        };
        for (Asked change : changes) {
            for (Asked question : questions) {
                Planner asked = warm();
                Check.outcome(() -> question.of(asked));
                change.of(asked);
                Planner first = warm();
                change.of(first);
                Check.same("behind a change", Check.outcome(() -> question.of(first)),
                        Check.outcome(() -> question.of(asked)));
            }
        }
        Planner planner = warm();
        Check.same("best", 0, planner.best(3));
        planner.extend("b0-3:9;b2-3:0");
        Check.same("best behind extend", "AABA", chosenBest(planner, 1));
        planner.setDistricts(3);
        Check.same("best behind setDistricts", "AABC", chosenBest(planner, 1));
        planner.undo();
        planner.undo();
        Check.same("best behind undo", "AABA", chosenBest(planner, 1));
    }

    private static String chosenBest(Planner planner, int measure) {
        planner.choose(planner.best(measure));
        return planner.plan();
    }

    private static void countsBoth(Planner planner, int due) {
        Check.same("plans", due, planner.plans());
        Check.same("counted", due, planner.counted());
    }

    private static void counted() {
        promise(22, "Counts all plans in another way: contiguous, balanced sets of units that contain the lowest unit "
                + "without a district are taken as districts, one after the other");
        Check.same("one unit", 0, mapped("u1/1").counted());
        Check.same("nine units in four districts", 6930, complete(9, 4, 99).counted());
        Check.same("nine units in three districts", 2737, complete(9, 3, 99).counted());
        Check.same("nine units in two districts", 255, complete(9, 2, 99).counted());
        Check.same("contiguous", 3, with(mapped(units(4) + ";b0-1:1;b1-2:1;b2-3:1"), 3, 99).counted());
        Check.same("balanced", 3, complete(4, 2, 0).counted());
        // All plans are lawful, so that cores are together, too.
        Check.same("cores together", 3, with(complete("u1/1@2!;u1/1;u1/1;u1/1@2!"), 2, 99).counted());
        // First counted, then listed, and the other way round.
        Planner first = complete(5, 3, 99);
        Check.same("counted first", 25, first.counted());
        Check.same("then listed", 25, first.plans());
        Planner second = complete(5, 3, 99);
        Check.same("listed first", 25, second.plans());
        Check.same("then counted", 25, second.counted());
        promise(22, "Throws `IllegalStateException` as for plans");
        badSizes("counted", Planner::counted);
    }

    private static void planned() {
        promise(23, "Returns the district of a unit in one of all plans");
        Planner planner = complete(4, 3, 99);
        String[] plans = {"AABC", "ABAC", "ABBC", "ABCA", "ABCB", "ABCC"};
        for (int number = 0; number < plans.length; number++) {
            for (int u = 0; u < 4; u++) {
                int plan = number;
                int unit = u;
                sameUnchanged("planned " + number + " " + u, plans[number].charAt(u) - 'A', planner.twin(),
                        () -> planner.planned(plan, unit));
            }
        }
        Planner nine = complete(9, 4, 99);
        Check.same("the last unit of the last plan", 2, nine.planned(6929, 8));
        Check.same("unit 6 of the last plan", 3, nine.planned(6929, 6));
        Check.same("the last unit of the first plan", 3, nine.planned(0, 8));
        Check.fails("behind the last plan", ELEMENT, () -> nine.planned(6930, 8));
        promise(23, "Throws `IllegalStateException` as for plans");
        badSizes("planned", some -> some.planned(0, 0));
        promise(23, "Throws `IndexOutOfBoundsException` if there is no such unit");
        for (int unit : new int[] {LEAST, -1, 4, 5, 9, 12, 32, GREATEST}) {
            failsUnchanged("unit " + unit, INDEX, planner, () -> planner.planned(0, unit));
            failsUnchanged("unit " + unit + " and no plan", INDEX, planner, () -> planner.planned(6, unit));
        }
        promise(23, "Throws `NoSuchElementException` if there is no such plan");
        for (int plan : new int[] {LEAST, -1, 6, 7, 7770, GREATEST}) {
            failsUnchanged("plan " + plan, ELEMENT, planner, () -> planner.planned(plan, 3));
        }
        Check.same("the last plan", 2, planner.planned(5, 3));
        planner.setTolerance(0);
        failsUnchanged("no plans any more", ELEMENT, planner, () -> planner.planned(0, 0));
    }

    private static void bestIs(Planner planner, int measure, int due) {
        sameUnchanged("best " + measure, due, planner, () -> planner.best(measure));
    }

    private static void best() {
        promise(24, "Returns the first of all plans that no plan is better than");
        Planner four = complete(4, 2, 99);
        // Of AAAB AABA AABB ABAA ABAB ABBA ABBB, several are equally good by each measure.
        bestIs(four, 0, 2);
        bestIs(four, 1, 0);
        bestIs(four, 2, 0);
        bestIs(four, 3, 2);
        String row = ";b0-1:1;b1-2:1;b2-3:1";
        bestIs(with(mapped("u3/1;u1/1;u1/1;u1/1" + row), 2, 99), 3, 2);
        bestIs(with(mapped("u1/1;u1/1;u1/1;u3/1" + row), 2, 99), 3, 0);
        bestIs(with(mapped("u1/1;u1/1;u1/1;u1/1;b0-1:3;b1-2:2;b2-3:1"), 2, 99), 1, 0);
        bestIs(with(mapped("u1/1;u1/1;u1/1;u1/1;b0-1:1;b1-2:2;b2-3:3"), 2, 99), 1, 2);
        bestIs(with(mapped("u1/1;u1/1;u1/1;u1/1;b0-1:2;b1-2:1;b2-3:2"), 2, 99), 1, 1);
        bestIs(with(mapped("u1/1@0;u1/1@0;u1/1@1;u1/1@1" + row), 2, 99), 2, 1);
        bestIs(with(mapped("u1/1;u1/1@3;u1/1@3;u1/1@3" + row), 2, 99), 2, 2);
        bestIs(with(mapped("u1/1;u1/1;u1/1;u1/1" + row + ";o0:9"), 2, 99), 0, 0);
        bestIs(with(mapped("u1/99;u1/1;u1/1;u1/1" + row), 2, 99), 0, 2);
        bestIs(with(mapped(units(2)), 2, 99), 0, 0);
        promise(24, "Throws `IllegalArgumentException` if there is no such measure");
        for (int measure : new int[] {LEAST, -1, 4, 5, 32, 256, GREATEST}) {
            failsUnchanged("best " + measure, ARGUMENT, four, () -> four.best(measure));
            Check.fails("best " + measure + " of an empty map", ARGUMENT, () -> empty().best(measure));
        }
        promise(24, "Throws `IllegalStateException` as for plans");
        for (int measure = 0; measure < 4; measure++) {
            int asked = measure;
            badSizes("best", some -> some.best(asked));
        }
        promise(24, "Throws `NoSuchElementException` if there are no plans");
        Planner none = with(mapped(units(3)), 2, 99);
        for (int measure = 0; measure < 4; measure++) {
            int asked = measure;
            failsUnchanged("best " + measure, ELEMENT, none, () -> none.best(asked));
        }
        none.extend("b0-1:1");
        Check.same("one plan", 0, none.best(0));
    }

    private static void chosen(Planner planner, int plan, int due, String letters) {
        Check.same("choose " + plan, due, planner.choose(plan));
        Check.same("plan behind choose " + plan, letters, planner.plan());
    }

    private static void choose() {
        promise(25, "Makes one of all plans the present one");
        Planner planner = complete(4, 2, 99);
        String[] plans = ALL_OF_FOUR_IN_TWO.split(" ");
        for (int number = plans.length - 1; number >= 0; number--) {
            planner.choose(number);
            Check.same("plan " + number, plans[number], planner.plan());
        }
        Check.same("set of A", 7, planner.district(0, 1));
        promise(25, "Returns the number of units that get another district, or a district at all");
        Planner some = complete(4, 2, 99);
        chosen(some, 0, 4, "AAAB");
        chosen(some, 0, 0, "AAAB");
        chosen(some, 2, 1, "AABB");
        chosen(some, 3, 3, "ABAA");
        some.read("BABB");
        chosen(some, 3, 4, "ABAA");
        some.read("BABB");
        chosen(some, 6, 2, "ABBB");
        some.setTolerance(99);
        chosen(some, 6, 4, "ABBB");
        some.undo();
        some.undo();
        Check.same("undone", "ABBB", some.plan());
        promise(25, "Throws `IllegalStateException` as for plans");
        badSizes("choose", none -> none.choose(0));
        promise(25, "Throws `NoSuchElementException` if there is no such plan");
        for (int plan : new int[] {LEAST, -1, 7, 8, 7770, GREATEST}) {
            failsUnchanged("choose " + plan, ELEMENT, planner, () -> planner.choose(plan));
        }
        Check.same("the last plan", 2, planner.choose(6));
        Planner none = with(mapped(units(3)), 2, 99);
        failsUnchanged("no plans", ELEMENT, none, () -> none.choose(0));
    }
}
