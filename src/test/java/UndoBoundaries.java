/** The boundary cases of undo, snapshots and exceptions: the description, and the promises 29 to 31. */
final class UndoBoundaries extends Bench {
    private UndoBoundaries() {
    }

    static void run() {
        changes();
        noChanges();
        latestEight();
        exceptions();
        firstException();
        undo();
        undoReturns();
        saveSnapshot();
        restoreSnapshot();
    }

    // ---- "Undo"

    /** The call is one change: one more can be undone behind it, and undo takes all of it back. */
    private static void isChange(String name, Planner planner, Object due, Check.Call call) {
        String before = planner.world();
        int undoable = planner.undoable();
        Check.same(name, due, call.run());
        Check.same("changes behind " + name, undoable + 1, planner.undoable());
        Check.same("undo of " + name, undoable, planner.undo());
        Check.same("undone " + name, before, planner.world());
    }

    /** The call is a change that leaves map, number, tolerance and plan as they are. */
    private static void isEmptyChange(String name, Planner planner, Object due, Check.Call call) {
        String before = planner.world();
        int undoable = planner.undoable();
        Check.same(name, due, call.run());
        Check.same("nothing is different behind " + name, before, planner.world());
        Check.same("changes behind " + name, undoable + 1, planner.undoable());
    }

    private static void changes() {
        description("The successful calls of extend, clearMap, setDistricts, setTolerance, readPlan, choose, move, swap "
                + "and improve are changes, also if nothing is different then");
        Planner ring = ring("AABB");
        isChange("extend", ring, 5, () -> ring.extend("u1/1@3!;b0-4:9;o1:9;b0-1:0"));
        isChange("clearMap", ring, 4, ring::clearMap);
        isChange("setDistricts", ring, 2, () -> ring.setDistricts(4));
        isChange("setTolerance", ring, 99, () -> ring.setTolerance(0));
        isChange("readPlan", ring, 0, () -> ring.read("BBAA"));
        isChange("choose", ring, 1, () -> ring.choose(0));
        isChange("move", ring, 0, () -> ring.move(1, 1));
        isChange("swap", ring, 0, () -> ring.swap(1, 2));
        isChange("improve", ring, 1, () -> ring.improve(0));
        emptyChanges();
    }

    private static void emptyChanges() {
        Planner none = empty();
        isEmptyChange("clearMap of an empty map", none, 0, none::clearMap);
        isEmptyChange("setDistricts to the same number", none, 2, () -> none.setDistricts(2));
        isEmptyChange("setTolerance to the same one", none, 10, () -> none.setTolerance(10));
        Planner mapped = mapped(RING);
        isEmptyChange("extend by what there is", mapped, 4, () -> mapped.extend("o0:3;b0-1:2"));
        Planner planned = ring("AABB");
        isEmptyChange("readPlan of the same plan", planned, 0, () -> planned.read("AABB"));
        Planner chosen = ring("AABB");
        int number = numberOf(chosen, "AABB");
        isEmptyChange("choose of the same plan", chosen, 0, () -> chosen.choose(number));
        Planner improved = planned(PATH6, 2, 99, "AAABBB");
        for (int measure = 0; measure < 4; measure++) {
            int asked = measure;
            Planner twin = improved.twin();
            isEmptyChange("improve without a step", twin, 0, () -> twin.improve(asked));
        }
        // The plan goes, though number and tolerance stay: undo brings it back.
        isChange("setDistricts", planned, 2, () -> planned.setDistricts(2));
        isChange("setTolerance", planned, 99, () -> planned.setTolerance(99));
        isChange("extend", planned, 4, () -> planned.extend("o0:3"));
    }

    private static int numberOf(Planner planner, String plan) {
        Planner twin = planner.twin();
        int plans = twin.plans();
        for (int number = 0; number < plans; number++) {
            Planner other = planner.twin();
            other.choose(number);
            if (other.plan().equals(plan)) {
                return number;
            }
        }
        return -1;
    }

    private static void noChanges() {
        description("calls of extend that return a fault, and of readPlan that return a fault or a reason, are not "
                + "successful");
        Planner planner = planned(PATH6, 2, 33, "AAABBB");
        sameUnchanged("extend with a fault", -100, planner, planner::extend);
        sameUnchanged("extend with a fault", -101, planner, () -> planner.extend("u"));
        sameUnchanged("readPlan with a fault", -100, planner, planner::readPlan);
        sameUnchanged("readPlan with a fault", -105, planner, () -> planner.read("AAABB"));
        sameUnchanged("readPlan with a fault", -106, planner, () -> planner.read("AAABBBA"));
        sameUnchanged("readPlan without units", 1, planner, () -> planner.read("AAAAAA"), "refusal");
        sameUnchanged("readPlan, not contiguous", 2, planner, () -> planner.read("AABABB"), "refusal");
        sameUnchanged("readPlan, not balanced", 4, planner, () -> planner.read("AABBBB"), "refusal");
        Planner cores = planned("u1/1@0!;u1/1@0!;u1/1;u1/1;b0-1:1;b1-2:1;b2-3:1", 2, 99, "AABB");
        sameUnchanged("readPlan, split cores", 3, cores, () -> cores.read("ABBB"), "refusal");
        sameUnchanged("refuses", 3, cores, () -> cores.refuses(1, 1));
        sameUnchanged("plans", 2, cores, cores::plans);
        sameUnchanged("counted", 2, cores, cores::counted);
        sameUnchanged("best", 1, cores, () -> cores.best(2) + 1);
        sameUnchanged("store", 2, cores, () -> cores.store(0, true), "rows");
        sameUnchanged("copyRow", 4, cores, () -> cores.copyRow(0, 0, 1));
        sameUnchanged("saveSnapshot", 4, cores, cores::saveSnapshot, "snapshot");
        sameUnchanged("feed", 1, cores, () -> cores.feed('x'), "input");
    }

    private static void latestEight() {
        description("The latest 8 changes can be undone");
        for (int changes = 0; changes <= 20; changes++) {
            Planner planner = empty();
            for (int i = 1; i <= changes; i++) {
                planner.setTolerance(20 + i);
            }
            int left = Math.min(changes, 8);
            for (int undone = 1; undone <= left; undone++) {
                Check.same("undo " + undone + " of " + changes, left - undone, planner.undo());
                int due = changes == undone ? 10 : 20 + changes - undone;
                Check.same("tolerance behind undo " + undone + " of " + changes, due, planner.count(5));
            }
            failsUnchanged("no more of " + changes, STATE, planner, planner::undo);
        }
        // New changes behind undo: those that were undone are gone, and again eight at most are kept.
        for (int undone = 0; undone <= 8; undone++) {
            for (int added = 0; added <= 9; added++) {
                Planner planner = empty();
                for (int i = 1; i <= 11; i++) {
                    planner.setTolerance(20 + i);
                }
                for (int i = 0; i < undone; i++) {
                    planner.undo();
                }
                for (int i = 1; i <= added; i++) {
                    planner.setTolerance(40 + i);
                }
                int left = Math.min(8 - undone + added, 8);
                Check.same(undone + " undone, " + added + " added", left, planner.undoable());
                for (int i = 1; i <= left; i++) {
                    Check.same("undo", left - i, planner.undo());
                    int due = added - i > 0 ? 40 + added - i : 31 - undone - (i - added);
                    Check.same("tolerance", due, planner.count(5));
                }
            }
        }
    }

    // ---- "Exceptions"

    /** Everything that can be kept is kept: a plan, a refusal, an impossible statement, rows, a snapshot, an input. */
    private static Planner rich() {
        Planner planner = planned(RING, 2, 40, "AABB");
        planner.store(0, true);
        planner.store(1, false);
        planner.saveSnapshot();
        planner.swap(1, 2);
        Check.fails("rich", UNSUPPORTED, () -> planner.move(1, 0));
        Check.fails("rich", UNSUPPORTED, () -> planner.extend("o0:1;o9:1"));
        planner.type("u1/1");
        return planner;
    }

    private static void exceptions() {
        description("A method that throws an exception leaves the state unchanged unless its documentation says otherwise");
        Planner planner = rich();
        throwing(planner);
        Planner none = rich();
        none.setTolerance(99);
        throwingWithoutPlan(none);
        Planner cleared = rich();
        cleared.clearMap();
        for (int measure = 0; measure < 4; measure++) {
            int asked = measure;
            failsUnchanged("best", STATE, cleared, () -> cleared.best(asked));
        }
        failsUnchanged("plans", STATE, cleared, cleared::plans);
        failsUnchanged("counted", STATE, cleared, cleared::counted);
        failsUnchanged("planned", STATE, cleared, () -> cleared.planned(0, 0));
        failsUnchanged("choose", STATE, cleared, () -> cleared.choose(0));
        failsUnchanged("unit", INDEX, cleared, () -> cleared.unit(0, 0));
        failsUnchanged("letter", INDEX, cleared, () -> cleared.letter(0));
        failsUnchanged("readPlan", STATE, cleared, cleared::readPlan, "input");
        Check.same("readPlan empties the input", 0, cleared.count(9));
        Planner extended = rich();
        extended.type(";o9:1");
        failsUnchanged("extend", UNSUPPORTED, extended, extended::extend, "input", "impossible");
        Check.same("extend empties the input", 0, extended.count(9));
        Check.same("the statement", 1, extended.impossible());
        Planner moved = rich();
        failsUnchanged("move", UNSUPPORTED, moved, () -> moved.move(0, 1), "refusal");
        failsUnchanged("swap", UNSUPPORTED, moved, () -> moved.swap(0, 1), "refusal");
    }

    private static void throwing(Planner planner) {
        failsUnchanged("unit", INDEX, planner, () -> planner.unit(4, 0));
        failsUnchanged("unit", ARGUMENT, planner, () -> planner.unit(3, 8));
        failsUnchanged("border", INDEX, planner, () -> planner.border(0, 4));
        failsUnchanged("count", ARGUMENT, planner, () -> planner.count(10));
        failsUnchanged("setDistricts", ARGUMENT, planner, () -> planner.setDistricts(5));
        failsUnchanged("setTolerance", ARGUMENT, planner, () -> planner.setTolerance(100));
        failsUnchanged("move", INDEX, planner, () -> planner.move(0, 2));
        failsUnchanged("move", ARGUMENT, planner, () -> planner.move(0, 0));
        failsUnchanged("swap", INDEX, planner, () -> planner.swap(0, 4));
        failsUnchanged("swap", ARGUMENT, planner, () -> planner.swap(0, 2));
        failsUnchanged("refuses", INDEX, planner, () -> planner.refuses(4, 0));
        failsUnchanged("refuses", ARGUMENT, planner, () -> planner.refuses(0, 0));
        failsUnchanged("district", INDEX, planner, () -> planner.district(2, 0));
        failsUnchanged("district", ARGUMENT, planner, () -> planner.district(0, 7));
        failsUnchanged("measure", ARGUMENT, planner, () -> planner.measure(4, false));
        failsUnchanged("improve", ARGUMENT, planner, () -> planner.improve(4));
        failsUnchanged("planned", INDEX, planner, () -> planner.planned(0, 4));
        failsUnchanged("planned", ELEMENT, planner, () -> planner.planned(99, 0));
        failsUnchanged("best", ARGUMENT, planner, () -> planner.best(4));
        failsUnchanged("choose", ELEMENT, planner, () -> planner.choose(99));
        failsUnchanged("store", INDEX, planner, () -> planner.store(3, true));
        failsUnchanged("copyRow", ARGUMENT, planner, () -> planner.copyRow(0, 3, 0));
        failsUnchanged("copyRow", ELEMENT, planner, () -> planner.copyRow(0, 2, 0));
        failsUnchanged("copyRow", UNSUPPORTED, planner, () -> planner.copyRow(0, 1, 0));
        failsUnchanged("copyRow", INDEX, planner, () -> planner.copyRow(0, 0, 3));
        failsUnchanged("bits", INDEX, planner, () -> planner.bits(3, 0));
        failsUnchanged("bits", ELEMENT, planner, () -> planner.bits(0, 2));
        failsUnchanged("letter", INDEX, planner, () -> planner.letter(4));
    }

    private static void throwingWithoutPlan(Planner planner) {
        failsUnchanged("move", STATE, planner, () -> planner.move(0, 1));
        failsUnchanged("swap", STATE, planner, () -> planner.swap(0, 1));
        failsUnchanged("refuses", STATE, planner, () -> planner.refuses(0, 1));
        failsUnchanged("district", STATE, planner, () -> planner.district(0, 0));
        failsUnchanged("measure", STATE, planner, () -> planner.measure(0, false));
        failsUnchanged("meanCompactness", STATE, planner, planner::meanCompactness);
        failsUnchanged("improve", STATE, planner, () -> planner.improve(0));
        failsUnchanged("possible", STATE, planner, () -> planner.possible(true));
        failsUnchanged("store", STATE, planner, () -> planner.store(0, true));
        failsUnchanged("letter", STATE, planner, () -> planner.letter(0));
        planner.type("x".repeat(76));
        failsUnchanged("feed", STATE, planner, () -> planner.feed('x'));
    }

    private static void firstException() {
        description("If several exceptions apply, the one that is documented first is thrown");
        Planner none = empty();
        failsUnchanged("unit: no unit, no property", INDEX, none, () -> none.unit(0, 8));
        failsUnchanged("move: no unit, no plan", INDEX, none, () -> none.move(0, 0));
        failsUnchanged("swap: no unit, no plan", INDEX, none, () -> none.swap(0, 0));
        failsUnchanged("refuses: no unit, no plan", INDEX, none, () -> none.refuses(0, 0));
        failsUnchanged("letter: no unit, no plan", INDEX, none, () -> none.letter(0));
        failsUnchanged("district: no district, no property, no plan", INDEX, none, () -> none.district(2, 7));
        failsUnchanged("district: no property, no plan", ARGUMENT, none, () -> none.district(1, 7));
        failsUnchanged("district: no plan", STATE, none, () -> none.district(1, 6));
        failsUnchanged("measure: no measure, no plan", ARGUMENT, none, () -> none.measure(4, true));
        failsUnchanged("improve: no measure, no plan", ARGUMENT, none, () -> none.improve(4));
        failsUnchanged("planned: no units, no unit, no plan", STATE, none, () -> none.planned(0, 0));
        failsUnchanged("best: no measure, no units", ARGUMENT, none, () -> none.best(4));
        failsUnchanged("best: no units, no plans", STATE, none, () -> none.best(3));
        failsUnchanged("choose: no units, no plan", STATE, none, () -> none.choose(0));
        failsUnchanged("store: no row, no plan", INDEX, none, () -> none.store(3, true));
        failsUnchanged("copyRow: no row, a missing one, count", ARGUMENT, none, () -> none.copyRow(3, 0, -1));
        failsUnchanged("copyRow: a missing row, count", ELEMENT, none, () -> none.copyRow(0, 0, -1));
        failsUnchanged("bits: no row, no element", INDEX, none, () -> none.bits(3, 9));
        Planner mapped = mapped(RING);
        failsUnchanged("move: no district, no plan", INDEX, mapped, () -> mapped.move(0, 2));
        failsUnchanged("refuses: no district, no plan", INDEX, mapped, () -> mapped.refuses(0, 2));
        failsUnchanged("swap: no plan, the same unit", STATE, mapped, () -> mapped.swap(0, 0));
        failsUnchanged("planned: no unit, no plan", INDEX, mapped, () -> mapped.planned(99, 4));
        mapped.setDistricts(4);
        mapped.setTolerance(0);
        failsUnchanged("best: no measure, no plans", ARGUMENT, mapped, () -> mapped.best(-1));
        Planner rows = ring("AABB");
        rows.store(0, true);
        rows.store(1, false);
        failsUnchanged("copyRow: kinds, count", UNSUPPORTED, rows, () -> rows.copyRow(0, 1, 3));
        failsUnchanged("copyRow: a missing row, kinds, count", ELEMENT, rows, () -> rows.copyRow(1, 2, 3));
        failsUnchanged("copyRow: no row, kinds, count", ARGUMENT, rows, () -> rows.copyRow(0, 4, 3));
        failsUnchanged("move: its district, refused", ARGUMENT, rows, () -> rows.move(0, 0));
        failsUnchanged("swap: the same district, refused", ARGUMENT, rows, () -> rows.swap(0, 1));
    }

    // ---- promises 29 to 31

    private static void undo() {
        promise(29, "Undoes the latest change that can be undone: map, number of districts, tolerance and present plan are "
                + "as they were before it");
        Planner planner = ring("AABB");
        String[] worlds = new String[9];
        Check.Call[] calls = {
            () -> planner.swap(1, 2), () -> planner.improve(0), () -> planner.setDistricts(3), () -> planner.read("AABC"),
            () -> planner.extend("u9/9@2!;b4-0:4;o2:2;b0-1:0"), () -> planner.clearMap(),
            () -> planner.extend("u1/2@1!;u3/4;b0-1:5"), () -> planner.setTolerance(50),
        };
        for (int i = 0; i < 8; i++) {
            worlds[i] = planner.world();
            calls[i].run();
        }
        for (int i = 7; i >= 0; i--) {
            Check.same("undo", i, planner.undo());
            Check.same("as it was before change " + i, worlds[i], planner.world());
        }
        // What is no part of that stays as it is.
        Planner rich = rich();
        String rows = rich.state("undo", "snapshot", "rows");
        rich.clearMap();
        rich.undo();
        Check.same("the state but for rows", rows, rich.state("undo", "snapshot", "rows"));
        rich.store(2, true);
        rich.type("@");
        rich.undo();
        Check.same("the plan", "AABB", rich.plan());
        Check.same("the input stays", 5, rich.count(9));
        Check.same("the row stays", asBits(10f), rich.bits(2, 1));
        Check.same("the refusal stays", 4, rich.refusal(false));
        Check.same("the statement stays", 1, rich.impossible());
        Check.same("the snapshot stays", 4, rich.restoreSnapshot());
    }

    private static void undoReturns() {
        promise(29, "Returns the number of changes that can still be undone");
        Planner planner = empty();
        for (int i = 0; i < 9; i++) {
            planner.clearMap();
        }
        for (int left = 7; left >= 0; left--) {
            Check.same("undo", left, planner.undo());
        }
        promise(29, "Throws `IllegalStateException` if there is none");
        failsUnchanged("behind the last one", STATE, planner, planner::undo);
        Planner none = empty();
        failsUnchanged("at first", STATE, none, none::undo);
        none.extend("u");
        none.type("ABC");
        none.saveSnapshot();
        Check.fails("setDistricts", ARGUMENT, () -> none.setDistricts(5));
        failsUnchanged("without a change", STATE, none, none::undo);
        none.setDistricts(2);
        Check.same("one", 0, none.undo());
        failsUnchanged("none again", STATE, none, none::undo);
        none.setDistricts(2);
        none.restoreSnapshot();
        failsUnchanged("behind restoreSnapshot", STATE, none, none::undo);
    }

    private static void saveSnapshot() {
        promise(30, "Saves map, number of districts, tolerance and present plan, in place of an earlier snapshot");
        Planner planner = ring("AABB");
        String saved = planner.world();
        sameUnchanged("saveSnapshot", 4, planner, planner::saveSnapshot, "snapshot");
        planner.swap(1, 2);
        planner.setDistricts(4);
        planner.setTolerance(0);
        planner.extend("o1:9;b0-1:9;u2/2@3!;b4-3:1");
        String later = planner.world();
        Planner twin = planner.twin();
        twin.restoreSnapshot();
        Check.same("the first one", saved, twin.world());
        Check.same("saveSnapshot", 5, planner.saveSnapshot());
        planner.clearMap();
        planner.restoreSnapshot();
        Check.same("in place of the first one", later, planner.world());
        promise(30, "Returns the number of units");
        Planner growing = empty();
        Check.same("none", 0, growing.saveSnapshot());
        for (int count = 1; count <= 12; count++) {
            growing.extend("u1/1");
            sameUnchanged("saveSnapshot", count, growing, growing::saveSnapshot, "snapshot");
        }
        growing.clearMap();
        Check.same("none again", 0, growing.saveSnapshot());
    }

    private static void restoreSnapshot() {
        promise(31, "Restores what was saved by the latest snapshot, which is kept");
        Planner planner = ring("AABB");
        String saved = planner.world();
        planner.saveSnapshot();
        for (int round = 0; round < 3; round++) {
            planner.move(2, 0);
            planner.clearMap();
            planner.setDistricts(3);
            planner.setTolerance(0);
            planner.extend("u1/1");
            Check.same("restoreSnapshot", 4, planner.restoreSnapshot());
            Check.same("as it was saved", saved, planner.world());
            planner.extend("o0:9;b0-1:0");
            Check.same("restoreSnapshot", 4, planner.restoreSnapshot());
            Check.same("as it was saved", saved, planner.world());
        }
        Planner rich = rich();
        rich.clearMap();
        rich.restoreSnapshot();
        Check.same("the plan", "AABB", rich.plan());
        Check.same("the input stays", 4, rich.count(9));
        Check.same("the refusal stays", 4, rich.refusal(false));
        Check.same("the statement stays", 1, rich.impossible());
        Check.same("the rows stay", asBits(10f), rich.bits(0, 1));
        restoreForgetsChanges();
        promise(31, "Returns the number of units");
        Planner empty = empty();
        empty.saveSnapshot();
        empty.extend(units(12));
        Check.same("none", 0, empty.restoreSnapshot());
        empty.extend(units(12));
        empty.saveSnapshot();
        empty.clearMap();
        Check.same("twelve", 12, empty.restoreSnapshot());
        promise(31, "Throws `IllegalStateException` if no snapshot was saved");
        Planner none = ring("AABB");
        failsUnchanged("at first", STATE, none, none::restoreSnapshot);
        none.clearMap();
        failsUnchanged("behind changes", STATE, none, none::restoreSnapshot);
        none.undo();
        failsUnchanged("behind undo", STATE, none, none::restoreSnapshot);
    }

    private static void restoreForgetsChanges() {
        promise(31, "No changes can be undone afterwards");
        for (int changes = 0; changes <= 10; changes++) {
            Planner planner = empty();
            planner.saveSnapshot();
            for (int i = 0; i < changes; i++) {
                planner.setTolerance(20 + i);
            }
            planner.restoreSnapshot();
            failsUnchanged("behind " + changes + " changes", STATE, planner, planner::undo);
            planner.setTolerance(50);
            planner.setTolerance(60);
            Check.same("two new ones", 1, planner.undo());
            Check.same("tolerance", 50, planner.count(5));
            Check.same("two new ones", 0, planner.undo());
            Check.same("tolerance", 10, planner.count(5));
            Check.fails("no more", STATE, planner::undo);
        }
    }
}
