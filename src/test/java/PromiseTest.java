/** Each promise of the document by hand: ordinary inputs, the edges that it names, wrong inputs. */
public final class PromiseTest extends Bench {
    public static void main(String[] args) {
        newObject();
        feed();
        extend();
        extendFaults();
        extendImpossible();
        impossible();
        clearMap();
        unit();
        border();
        count();
        setDistricts();
        setTolerance();
        readPlan();
        readPlanReasons();
        move();
        swap();
        refuses();
        refusal();
        district();
        measure();
        measureEdges();
        meanCompactness();
        improve();
        possible();
        plans();
        counted();
        planned();
        best();
        choose();
        store();
        copyRow();
        bits();
        undo();
        snapshots();
        letter();
        Check.end("PromiseTest");
    }

    private static void newObject() {
        Planner planner = empty();
        int[] due = {0, 0, 0, 0, 2, 10, 0, 0, 0, 0};
        for (int what = 0; what < due.length; what++) {
            Check.same("1: count " + what, due[what], planner.count(what));
        }
        Check.fails("1: impossible", ELEMENT, planner::impossible);
        Check.fails("1: refusal", ELEMENT, () -> planner.refusal(false));
        Check.fails("1: undo", STATE, planner::undo);
        Check.fails("1: restoreSnapshot", STATE, planner::restoreSnapshot);
        Check.fails("1: bits", ELEMENT, () -> planner.bits(2, 0));
        Planner other = mapped("u1/1");
        Check.same("1: objects of their own", 0, planner.count(0));
        Check.same("1: objects of their own", 1, other.count(0));
    }

    private static void feed() {
        Planner planner = empty();
        for (int i = 1; i <= 80; i++) {
            Check.same("2: feed", i, planner.feed((char) (i * 800)));
        }
        failsUnchanged("2: feed 81", STATE, planner, () -> planner.feed('u'));
        Check.same("2: length", 80, planner.count(9));
        Check.same("2: extend", -100, planner.extend());
        Check.same("2: feed behind extend", 1, planner.feed('x'));
        Planner full = empty();
        StringBuilder text = new StringBuilder("u11/1");
        for (int i = 0; i < 15; i++) {
            text.append(";o0:").append(i % 10);
        }
        Check.same("2: 80 characters", 80, text.length());
        full.type(text.toString());
        Check.same("2: a text of 80 characters", 1, full.extend());
        Check.same("2: a text of 80 characters", 4, full.unit(0, 4));
    }

    private static void extend() {
        Planner planner = empty();
        Check.same("3: extend", 2, planner.extend("u07/99@3!;u1/01@0"));
        Check.same("3: input", 0, planner.count(9));
        Check.same("3: population", 7, planner.unit(0, 0));
        Check.same("3: area", 99, planner.unit(0, 1));
        Check.same("3: community", 3, planner.unit(0, 2));
        Check.same("3: core", 1, planner.unit(0, 3));
        Check.same("3: no core", 0, planner.unit(1, 3));
        Check.same("3: extend again", 3, planner.extend("u2/3;b00-02:9;o2:9"));
        Check.same("3: border", 9, planner.border(2, 0));
        Check.same("3: outer length", 9, planner.unit(2, 4));
        Check.same("3: new length", 3, planner.extend("b2-0:4;o2:0"));
        Check.same("3: new length", 4, planner.border(0, 2));
        Check.same("3: new outer length", 0, planner.unit(2, 4));
        Check.same("3: border away", 3, planner.extend("b0-2:0"));
        Check.same("3: border away", 0, planner.border(0, 2));
        Check.same("3: border away", 0, planner.unit(0, 5));
        Check.same("3: border away", 0, planner.unit(2, 5));
        Planner most = mapped("u1/1;u1/1;u1/1;u1/1;u1/1;u1/1;u1/1;u1/1;u1/1;u1/1;u1/1");
        Check.same("3: twelve units", 12, most.extend("u1/1"));
        Check.same("3: border of the last", 12, most.extend("b10-11:1;o11:2"));
        Planner with = ring("AABB");
        Check.same("3: no plan behind it", 4, with.extend("o0:3"));
        Check.same("3: no plan behind it", 0, with.count(6));
        Check.same("3: undo", 3, with.undo());
        Check.same("3: undo", "AABB", with.plan());
    }

    private static void extendFaults() {
        Object[][] faults = {
            {"", 0}, {"x", 0}, {"u", 1}, {"U1/1", 0}, {"u/1", 1}, {"u1", 2}, {"u1-1", 2}, {"u12", 3},
            {"u123/1", 3}, {"u1/", 3}, {"u1/x", 3}, {"u1/1 ", 4}, {"u1/11", -1}, {"u1/111", 5}, {"u1/1@", 5},
            {"u1/1@x", 5}, {"u1/1@1!!", 7}, {"u1/1@11", 6}, {"u1/1!", 4}, {"u1/1;", 5}, {"u1/1;;", 5},
            {"u1/1;x", 5}, {"b", 1}, {"b0", 2}, {"b0-", 3}, {"b0-1", 4}, {"b0-1:", 5}, {"b0-1:12", 6},
            {"b0/1:1", 2}, {"b123-1:1", 3}, {"b0-123:1", 5}, {"o", 1}, {"o0", 2}, {"o0:", 3}, {"o0:12", 4},
            {"o0-1", 2}, {"o000:1", 3}, {"u1/1@1;o0:1x", 11}, {";u1/1", 0}, {"u0/1;x", 5},
        };
        for (Object[] fault : faults) {
            Planner planner = mapped("u3/3");
            planner.setTolerance(99);
            int due = (Integer) fault[1] < 0 ? 2 : -100 - (Integer) fault[1];
            Check.same("3: " + fault[0], due, planner.extend((String) fault[0]));
            Check.same("3: input behind " + fault[0], 0, planner.count(9));
            if (due < 0) {
                Check.same("3: map behind " + fault[0], 1, planner.count(0));
                Check.same("3: changes behind " + fault[0], 2, planner.undoable());
            }
        }
        Planner planner = ring("AABB");
        Check.same("3: a fault keeps the plan", -100, planner.extend("?"));
        Check.same("3: a fault keeps the plan", "AABB", planner.plan());
        char[] odd = {0, 0xff10, 0x660, 200};
        for (char sign : odd) {
            planner.type("u");
            planner.feed(sign);
            Check.same("3: sign " + (int) sign, -101, planner.extend());
        }
    }

    private static void extendImpossible() {
        Object[][] texts = {
            {"u0/1", 0}, {"u1/0", 0}, {"u00/1", 0}, {"u1/1@4", 0}, {"u1/1@9!", 0}, {"b0-0:1", 0}, {"b0-0:0", 0},
            {"b0-1:0", 0}, {"b0-2:1", 0}, {"b2-0:1", 0}, {"o2:1", 0}, {"o2:0", 0}, {"o99:1", 0},
            {"u1/1;b0-1:1;b0-1:0;b1-0:0;u1/1", 3}, {"b99-98:1", 0}, {"o0:1;o1:2;o3:1", 2},
        };
        for (Object[] text : texts) {
            Planner planner = mapped("u3/3;u3/3");
            planner.setTolerance(99);
            planner.read("AB");
            Check.fails("3: " + text[0], UNSUPPORTED, () -> planner.extend((String) text[0]));
            Check.same("3: number in " + text[0], text[1], planner.impossible());
            Check.same("3: input behind " + text[0], 0, planner.count(9));
            Check.same("3: plan behind " + text[0], "AB", planner.plan());
            Check.same("3: map behind " + text[0], "2 0 0 0", planner.count(0) + " " + planner.count(1) + " "
                    + planner.unit(0, 4) + " " + planner.unit(1, 4));
            Check.same("3: changes behind " + text[0], 3, planner.undoable());
        }
        Planner most = mapped("u1/1;u1/1;u1/1;u1/1;u1/1;u1/1;u1/1;u1/1;u1/1;u1/1;u1/1");
        Check.fails("3: a thirteenth unit", UNSUPPORTED, () -> most.extend("o0:5;u2/2;u3/3"));
        Check.same("3: a thirteenth unit", 2, most.impossible());
        Check.same("3: none is carried out", 11, most.count(0));
        Check.same("3: none is carried out", 0, most.unit(0, 4));
        Check.same("3: the twelfth", 12, most.extend("u2/2"));
        Check.same("3: nothing is left of the refused one", 2, most.unit(11, 0));
    }

    private static void impossible() {
        Planner planner = empty();
        Check.fails("4: impossible", ELEMENT, planner::impossible);
        planner.extend("?");
        Check.fails("4: behind a fault", ELEMENT, planner::impossible);
        Check.fails("4: extend", UNSUPPORTED, () -> planner.extend("u1/1;o3:1"));
        Check.same("4: impossible", 1, planner.impossible());
        planner.extend("u1/1");
        planner.extend("?");
        planner.clearMap();
        planner.undo();
        planner.undo();
        Check.same("4: it stays", 1, planner.impossible());
        planner.saveSnapshot();
        Check.fails("4: extend", UNSUPPORTED, () -> planner.extend("o3:1;o2:1"));
        Check.same("4: another one", 0, planner.impossible());
        planner.restoreSnapshot();
        Check.same("4: behind restoreSnapshot", 0, planner.impossible());
    }

    private static void clearMap() {
        Planner planner = empty();
        Check.same("5: clearMap", 0, planner.clearMap());
        planner.extend(RING);
        planner.setDistricts(3);
        planner.setTolerance(77);
        planner.type("uv");
        Check.same("5: clearMap", 4, planner.clearMap());
        int[] due = {0, 0, 0, 0, 3, 77, 0, 0, 0, 2};
        for (int what = 0; what < due.length; what++) {
            Check.same("5: count " + what, due[what], planner.count(what));
        }
        planner.extend();
        Check.same("5: extend", 4, planner.extend("u1/1;u1/1;u1/1;u1/1"));
        for (int u = 0; u < 4; u++) {
            Check.same("5: nothing is left", "0 0 0 -1", planner.unit(u, 3) + " " + planner.unit(u, 4) + " "
                    + planner.unit(u, 5) + " " + planner.unit(u, 2));
        }
        Check.same("5: no borders", 0, planner.count(1));
        Planner with = ring("AABB");
        with.clearMap();
        Check.same("5: no plan", 0, with.count(6));
        Check.same("5: undo", 3, with.undo());
        Check.same("5: undo", "AABB", with.plan());
        Check.same("5: undo", 3, with.border(3, 1));
    }

    private static void unit() {
        Planner planner = mapped(RING + ";u9/8");
        int[][] due = {
            {5, 4, 0, 1, 3, 6, -1, 0}, {5, 4, 0, 0, 0, 9, -1, 0}, {5, 2, 1, 0, 0, 9, -1, 0},
            {5, 2, 1, 1, 0, 6, -1, 0}, {9, 8, -1, 0, 0, 0, -1, 0},
        };
        for (int u = 0; u < due.length; u++) {
            for (int what = 0; what < 8; what++) {
                Check.same("6: unit " + u + " " + what, due[u][what], planner.unit(u, what));
            }
        }
        failsUnchanged("6: unit 5", INDEX, planner, () -> planner.unit(5, 0));
        failsUnchanged("6: unit -1", INDEX, planner, () -> planner.unit(-1, 99));
        failsUnchanged("6: what 8", ARGUMENT, planner, () -> planner.unit(0, 8));
        failsUnchanged("6: what -1", ARGUMENT, planner, () -> planner.unit(4, -1));
        Planner with = mapped(PATH6);
        with.read("AAABBB");
        int[] edges = {0, 0, 1, 1, 0, 0};
        for (int u = 0; u < 6; u++) {
            Check.same("6: district of " + u, u / 3, with.unit(u, 6));
            Check.same("6: edge " + u, edges[u], with.unit(u, 7));
        }
        Check.fails("6: extreme", INDEX, () -> with.unit(Integer.MAX_VALUE, 0));
        Check.fails("6: extreme", INDEX, () -> with.unit(Integer.MIN_VALUE, 0));
    }

    private static void border() {
        Planner planner = mapped(RING);
        Check.same("7: border", 3, planner.border(1, 3));
        Check.same("7: border", 3, planner.border(3, 1));
        Check.same("7: none", 0, planner.border(0, 3));
        Check.same("7: the same", 0, planner.border(2, 2));
        failsUnchanged("7: border", INDEX, planner, () -> planner.border(0, 4));
        failsUnchanged("7: border", INDEX, planner, () -> planner.border(4, 0));
        failsUnchanged("7: border", INDEX, planner, () -> planner.border(-1, 0));
        failsUnchanged("7: border", INDEX, planner, () -> planner.border(0, -1));
        Check.fails("7: border", INDEX, () -> empty().border(0, 0));
    }

    private static void count() {
        Planner planner = mapped(RING + ";u9/8;u1/1@3;u1/2@3;b4-6:1");
        planner.setDistricts(4);
        planner.setTolerance(0);
        planner.type("abc");
        int[] due = {7, 5, 31, 23, 4, 0, 0, 3, 3, 3};
        for (int what = 0; what < due.length; what++) {
            Check.same("8: count " + what, due[what], planner.count(what));
        }
        failsUnchanged("8: count 10", ARGUMENT, planner, () -> planner.count(10));
        failsUnchanged("8: count -1", ARGUMENT, planner, () -> planner.count(-1));
        Check.same("8: present plan", 1, ring("AABB").count(6));
        Check.same("8: one part", 1, mapped(PATH6).count(7));
        Check.same("8: parts", 2, mapped("u1/1;u1/1;u1/1;u1/1;b3-0:1;b2-1:1").count(7));
        Planner away = mapped(PATH6 + ";b1-2:0");
        Check.same("8: borders", 4, away.count(1));
        Check.same("8: parts", 2, away.count(7));
    }

    private static void setDistricts() {
        Planner planner = ring("AABB");
        failsUnchanged("9: 1", ARGUMENT, planner, () -> planner.setDistricts(1));
        failsUnchanged("9: 5", ARGUMENT, planner, () -> planner.setDistricts(5));
        failsUnchanged("9: extreme", ARGUMENT, planner, () -> planner.setDistricts(Integer.MIN_VALUE));
        Check.same("9: the plan is there", "AABB", planner.plan());
        Check.same("9: the same number", 2, planner.setDistricts(2));
        Check.same("9: no plan", 0, planner.count(6));
        Check.same("9: setDistricts", 2, planner.setDistricts(4));
        Check.same("9: setDistricts", 4, planner.setDistricts(3));
        Check.same("9: count", 3, planner.count(4));
        Check.same("9: undo", 5, planner.undo());
        Check.same("9: undo", 4, planner.count(4));
        Check.same("9: undo", 4, planner.undo());
        Check.same("9: undo", 3, planner.undo());
        Check.same("9: undo", "AABB", planner.plan());
    }

    private static void setTolerance() {
        Planner planner = ring("AABB");
        failsUnchanged("10: -1", ARGUMENT, planner, () -> planner.setTolerance(-1));
        failsUnchanged("10: 100", ARGUMENT, planner, () -> planner.setTolerance(100));
        Check.same("10: the same one", 99, planner.setTolerance(99));
        Check.same("10: no plan", 0, planner.count(6));
        Check.same("10: setTolerance", 99, planner.setTolerance(0));
        Check.same("10: setTolerance", 0, planner.setTolerance(10));
        Check.same("10: count", 10, planner.count(5));
        planner.undo();
        Check.same("10: undo", 0, planner.count(5));
        planner.undo();
        planner.undo();
        Check.same("10: undo", "AABB", planner.plan());
        Check.same("10: undo", 99, planner.count(5));
    }

    private static void readPlan() {
        Planner nothing = empty();
        nothing.type("A");
        Check.fails("11: empty map", STATE, nothing::readPlan);
        Check.same("11: input in any case", 0, nothing.count(9));
        Planner planner = mapped(PATH6);
        Check.same("11: lawful", 0, planner.read("aAabBB"));
        Check.same("11: plan", "AAABBB", planner.plan());
        Check.same("11: input", 0, planner.count(9));
        Object[][] faults = {
            {"", 0}, {"AAABB", 5}, {"AAABBBB", 6}, {"AAACBB", 3}, {"@AABBB", 0}, {"`aabbb", 0}, {"AAcBBBBBB", 2},
            {"AAABB?", 5}, {"AAABBB?", 6}, {"0", 0}, {"AAABBBBBB", 6}, {"A1", 1},
        };
        for (Object[] fault : faults) {
            Check.same("11: " + fault[0], -100 - (Integer) fault[1], planner.read((String) fault[0]));
            Check.same("11: input behind " + fault[0], 0, planner.count(9));
            Check.same("11: plan behind " + fault[0], "AAABBB", planner.plan());
            Check.fails("11: nothing is kept", ELEMENT, () -> planner.refusal(false));
        }
        Check.same("11: changes", 2, planner.undoable());
        Planner four = mapped("u1/1;u1/1;u1/1;u1/1");
        four.setDistricts(4);
        Check.same("11: four districts", 0, four.read("dCbA"));
        Check.same("11: four districts", "DCBA", four.plan());
        Check.same("11: E", -103, four.read("abce"));
        four.setDistricts(3);
        Check.same("11: D", -103, four.read("abcD"));
    }

    private static void readPlanReasons() {
        Planner planner = mapped(PATH6 + ";u1/1@2!;u1/1@2!;b5-6:1;b6-7:1");
        planner.setDistricts(3);
        planner.setTolerance(50);
        Object[][] plans = {
            {"AAAAAAAA", 1, 1}, {"BBBBBBBB", 1, 0}, {"AAAABBBB", 1, 2}, {"ACACACAC", 1, 1}, {"ABABCCCC", 2, 0},
            {"ABCBCBCB", 2, 1}, {"ABBCBBCC", 2, 1}, {"AABBBBBC", 3, 2}, {"ABBBBBCC", 4, 0}, {"BAAACCCC", 4, 1},
            {"AABBBBCC", 0, 0}, {"AAABBCCC", 0, 0},
        };
        int refusals = 0;
        for (Object[] line : plans) {
            Check.same("11: " + line[0], line[1], planner.read((String) line[0]));
            if (!line[1].equals(0)) {
                refusals++;
                Check.same("11: reason of " + line[0], line[1], planner.refusal(false));
                Check.same("11: detail of " + line[0], line[2], planner.refusal(true));
                Check.same("11: no plan", 0, planner.count(6));
            }
        }
        Check.same("11: refusals", 10, refusals);
        Check.same("11: plan", "AAABBCCC", planner.plan());
        planner.read("AAAAAAAA");
        Check.same("11: a refused plan changes nothing", "AAABBCCC", planner.plan());
        tolerated(0, "u3/1;u3/1;b0-1:1", 0);
        tolerated(0, "u3/1;u2/1;b0-1:1", 4);
        tolerated(20, "u3/1;u2/1;b0-1:1", 0);
        tolerated(19, "u3/1;u2/1;b0-1:1", 4);
        tolerated(98, "u99/1;u1/1", 0);
        tolerated(97, "u99/1;u1/1", 4);
        Planner lowest = mapped("u1/1@3!;u1/1@1!;u1/1@3!;u1/1@1!;b0-1:1;b2-3:1;b1-3:1");
        Check.same("11: two communities", 3, lowest.read("AABB"));
        Check.same("11: the lowest community", 1, lowest.refusal(true));
    }

    private static void tolerated(int tolerance, String map, int due) {
        Planner planner = mapped(map);
        planner.setTolerance(tolerance);
        Check.same("11: tolerance " + tolerance + " for " + map, due, planner.read("AB"));
    }

    private static void move() {
        Planner planner = mapped(PATH6);
        Check.fails("12: no plan", STATE, () -> planner.move(0, 1));
        Check.fails("12: no unit before no plan", INDEX, () -> planner.move(6, 0));
        Check.fails("12: no district before no plan", INDEX, () -> planner.move(0, 2));
        planner.setTolerance(50);
        planner.read("AAABBB");
        failsUnchanged("12: unit -1", INDEX, planner, () -> planner.move(-1, 0));
        failsUnchanged("12: unit 6", INDEX, planner, () -> planner.move(6, 0));
        failsUnchanged("12: district -1", INDEX, planner, () -> planner.move(0, -1));
        failsUnchanged("12: district 2", INDEX, planner, () -> planner.move(0, 2));
        failsUnchanged("12: its district", ARGUMENT, planner, () -> planner.move(0, 0));
        refused(planner, 0, 1, 5, 0);
        refused(planner, 5, 0, 5, 5);
        Check.same("12: move", 1, planner.move(3, 0));
        Check.same("12: plan", "AAAABB", planner.plan());
        refused(planner, 4, 0, 4, 0);
        Check.same("12: undo", 3, planner.undo());
        Check.same("12: plan", "AAABBB", planner.plan());
        Planner wide = mapped("u1/1@0!;u1/1@0!;u1/1@0!;u1/1;b0-1:1;b1-2:1;b2-3:1;b0-3:1");
        wide.setTolerance(99);
        wide.read("AAAB");
        refused(wide, 3, 0, 1, 1);
        refused(wide, 2, 1, 3, 0);
        Planner torn = mapped("u1/1;u1/1;u1/1;u1/1;b0-1:1;b1-2:1;b1-3:1");
        torn.setTolerance(99);
        torn.read("AAAB");
        refused(torn, 1, 1, 2, 0);
        Check.same("12: move back", 0, torn.count(9));
    }

    private static void refused(Planner planner, int unit, int district, int reason, int detail) {
        String before = planner.plan();
        Check.same("14: refuses " + unit + " " + district, reason, planner.refuses(unit, district));
        Check.fails("12: move " + unit + " " + district, UNSUPPORTED, () -> planner.move(unit, district));
        Check.same("12: reason of " + unit + " " + district, reason, planner.refusal(false));
        Check.same("12: detail of " + unit + " " + district, detail, planner.refusal(true));
        Check.same("12: plan behind " + unit + " " + district, before, planner.plan());
    }

    private static void swap() {
        Planner planner = mapped(PATH6);
        Check.fails("13: no plan", STATE, () -> planner.swap(0, 1));
        Check.fails("13: no unit before no plan", INDEX, () -> planner.swap(0, 6));
        planner.read("AAABBB");
        failsUnchanged("13: unit 6", INDEX, planner, () -> planner.swap(0, 6));
        failsUnchanged("13: unit -1", INDEX, planner, () -> planner.swap(-1, 5));
        failsUnchanged("13: the same district", ARGUMENT, planner, () -> planner.swap(0, 2));
        failsUnchanged("13: the same unit", ARGUMENT, planner, () -> planner.swap(3, 3));
        swapRefused(planner, 1, 3, 5, 1);
        swapRefused(planner, 3, 1, 5, 1);
        swapRefused(planner, 0, 5, 5, 0);
        swapRefused(planner, 5, 0, 5, 5);
        swapRefused(planner, 4, 2, 5, 4);
        // The only neighbor of 2 in B is 3, with which it is swapped: that counts, and 2 is cut off then.
        swapRefused(planner, 2, 3, 2, 0);
        Planner ring = ring("AABB");
        // The neighbors of 0 are 1 and 2, those of 2 are 0 and 3.
        swapRefused(ring, 0, 2, 2, 0);
        Check.same("13: across", 0, ring.swap(0, 3));
        Check.same("13: across", "BABA", ring.plan());
        ring.undo();
        Check.same("13: swap", 0, ring.swap(1, 2));
        Check.same("13: plan", "ABAB", ring.plan());
        Check.same("13: swap", 1, ring.swap(1, 2));
        Check.same("13: plan", "AABB", ring.plan());
        Check.same("13: undo", 4, ring.undo());
        Check.same("13: undo", "ABAB", ring.plan());
        Planner pair = mapped("u1/1;u1/1;b0-1:1");
        pair.read("AB");
        Check.same("13: a pair", 1, pair.swap(1, 0));
        Check.same("13: a pair", "BA", pair.plan());
    }

    private static void swapRefused(Planner planner, int unit, int other, int reason, int detail) {
        String before = planner.plan();
        Check.fails("13: swap " + unit + " " + other, UNSUPPORTED, () -> planner.swap(unit, other));
        Check.same("13: reason of " + unit + " " + other, reason, planner.refusal(false));
        Check.same("13: detail of " + unit + " " + other, detail, planner.refusal(true));
        Check.same("13: plan behind " + unit + " " + other, before, planner.plan());
    }

    private static void refuses() {
        Planner planner = mapped(PATH6);
        Check.fails("14: no plan", STATE, () -> planner.refuses(0, 1));
        Check.fails("14: no unit before no plan", INDEX, () -> planner.refuses(6, 1));
        Check.fails("14: no district before no plan", INDEX, () -> planner.refuses(0, -1));
        planner.setTolerance(99);
        planner.read("AAAAAB");
        failsUnchanged("14: unit 6", INDEX, planner, () -> planner.refuses(6, 0));
        failsUnchanged("14: unit -1", INDEX, planner, () -> planner.refuses(-1, 0));
        failsUnchanged("14: district 2", INDEX, planner, () -> planner.refuses(0, 2));
        failsUnchanged("14: its district", ARGUMENT, planner, () -> planner.refuses(5, 1));
        String before = planner.state();
        Check.same("14: not refused", 0, planner.refuses(4, 1));
        Check.same("14: no neighbor", 5, planner.refuses(0, 1));
        Check.same("14: no units", 1, planner.refuses(5, 0));
        Check.same("14: nothing is kept", before, planner.state());
        Check.same("14: nothing is changed", 3, planner.undoable());
    }

    private static void refusal() {
        Planner planner = mapped(PATH6);
        Check.fails("15: none", ELEMENT, () -> planner.refusal(true));
        planner.read("AAAABB");
        Check.same("15: readPlan", 4, planner.refusal(false));
        Check.same("15: readPlan", 0, planner.refusal(true));
        planner.read("AAABBB");
        planner.read("?");
        Check.same("15: it stays", 4, planner.refusal(false));
        Check.fails("15: move", UNSUPPORTED, () -> planner.move(5, 0));
        Check.same("15: move", 5, planner.refusal(false));
        Check.same("15: move", 5, planner.refusal(true));
        planner.refuses(0, 1);
        planner.improve(0);
        planner.possible(true);
        planner.possible(false);
        Check.fails("15: no swap", ARGUMENT, () -> planner.swap(0, 1));
        Check.same("15: only readPlan, move and swap keep one", 5, planner.refusal(true));
        Check.fails("15: swap", UNSUPPORTED, () -> planner.swap(2, 3));
        Check.same("15: swap", 2, planner.refusal(false));
        Check.same("15: swap", 0, planner.refusal(true));
        planner.saveSnapshot();
        planner.clearMap();
        planner.undo();
        planner.restoreSnapshot();
        Check.same("15: it stays", 2, planner.refusal(false));
    }

    private static void district() {
        Planner planner = ring("AABB");
        int[][] due = {{2, 3, 10, 8, 7, 2, 1}, {2, 12, 10, 4, 4, 1, 1}};
        districts(planner, due);
        planner.swap(1, 2);
        int[][] swapped = {{2, 5, 10, 6, 7, 2, 2}, {2, 10, 10, 6, 4, 1, 2}};
        districts(planner, swapped);
        failsUnchanged("16: district 2", INDEX, planner, () -> planner.district(2, 0));
        failsUnchanged("16: district -1", INDEX, planner, () -> planner.district(-1, 9));
        failsUnchanged("16: what 7", ARGUMENT, planner, () -> planner.district(0, 7));
        failsUnchanged("16: what -1", ARGUMENT, planner, () -> planner.district(1, -1));
        Planner path = mapped(PATH6 + ";o1:4;o5:9");
        path.setDistricts(3);
        Check.fails("16: no plan", STATE, () -> path.district(2, 6));
        Check.fails("16: what before no plan", ARGUMENT, () -> path.district(2, 7));
        Check.fails("16: district before no plan", INDEX, () -> path.district(3, 7));
        path.read("BBAACC");
        int[][] three = {{2, 12, 2, 2, 2, 6, 0}, {2, 3, 2, 2, 5, 1, 0}, {2, 48, 2, 2, 10, 1, 0}};
        districts(path, three);
    }

    private static void districts(Planner planner, int[][] due) {
        for (int d = 0; d < due.length; d++) {
            for (int what = 0; what < due[d].length; what++) {
                Check.same("16: district " + d + " " + what, due[d][what], planner.district(d, what));
            }
        }
    }

    private static String fraction(Planner planner, int measure) {
        return planner.measure(measure, false) + "/" + planner.measure(measure, true);
    }

    private static void measure() {
        Planner planner = ring("AABB");
        Check.same("17: measure 0", "128/49", fraction(planner, 0));
        Check.same("17: measure 1", "4/1", fraction(planner, 1));
        Check.same("17: measure 2", "0/1", fraction(planner, 2));
        Check.same("17: measure 3", "0/1", fraction(planner, 3));
        planner.swap(1, 2);
        Check.same("17: measure 0", "96/49", fraction(planner, 0));
        Check.same("17: measure 2", "2/1", fraction(planner, 2));
        failsUnchanged("17: measure 4", ARGUMENT, planner, () -> planner.measure(4, false));
        failsUnchanged("17: measure -1", ARGUMENT, planner, () -> planner.measure(-1, true));
        Planner none = mapped(RING);
        Check.fails("17: no plan", STATE, () -> none.measure(3, true));
        Check.fails("17: no measure before no plan", ARGUMENT, () -> none.measure(4, true));
    }

    private static void measureEdges() {
        Planner apart = mapped("u1/1;u1/1");
        apart.read("AB");
        Check.same("17: perimeter 0", "0/1", fraction(apart, 0));
        apart.extend("o1:2");
        apart.read("AB");
        Check.same("17: one perimeter 0", "0/1", fraction(apart, 0));
        apart.read("BA");
        Check.same("17: one perimeter 0", "0/1", fraction(apart, 0));
        apart.extend("o0:4");
        apart.read("BA");
        Check.same("17: lowest terms", "1/1", fraction(apart, 0));
        apart.extend("o0:6");
        apart.read("AB");
        Check.same("17: lowest terms", "4/9", fraction(apart, 0));
        Planner uneven = mapped("u6/1;u4/1;b0-1:3");
        uneven.setTolerance(20);
        uneven.read("AB");
        Check.same("17: measure 3", "1/5", fraction(uneven, 3));
        Check.same("17: measure 1", "3/1", fraction(uneven, 1));
        Planner three = mapped("u6/1@1;u5/1@1;u4/1@0;u5/1@0;b2-3:1");
        three.setDistricts(3);
        three.setTolerance(99);
        three.read("ABCC");
        Check.same("17: the greatest difference", "7/20", fraction(three, 3));
        Check.same("17: one split community", "1/1", fraction(three, 2));
        Check.same("17: no border between districts", "0/1", fraction(three, 1));
    }

    private static void meanCompactness() {
        Planner planner = ring("AABB");
        Check.same("18: ring", (128f / 49f + 4f) / 2f, planner.meanCompactness());
        Planner none = mapped(RING);
        failsUnchanged("18: no plan", STATE, none, none::meanCompactness);
        Planner apart = mapped("u1/97;u1/98;u1/5;u1/99;o0:7;o1:9;o3:3");
        apart.setDistricts(4);
        apart.read("DABC");
        float due = 0f + 16f * 98f / 81f;
        due = due + 0f;
        due = due + 16f * 99f / 9f;
        due = due + 16f * 97f / 49f;
        Check.same("18: four", due / 4f, apart.meanCompactness());
        apart.read("ABCD");
        due = 16f * 97f / 49f;
        due = due + 16f * 98f / 81f;
        due = due + 0f;
        due = due + 16f * 99f / 9f;
        Check.same("18: another order", due / 4f, apart.meanCompactness());
        Planner zero = mapped("u1/1;u1/1");
        zero.read("AB");
        Check.same("18: perimeter 0", 0f, zero.meanCompactness());
    }

    private static void improve() {
        Planner planner = mapped(PATH6);
        Check.fails("19: no plan", STATE, () -> planner.improve(0));
        Check.fails("19: no measure before no plan", ARGUMENT, () -> planner.improve(4));
        planner.setTolerance(99);
        planner.read("AAAAAB");
        failsUnchanged("19: measure 4", ARGUMENT, planner, () -> planner.improve(4));
        failsUnchanged("19: measure -1", ARGUMENT, planner, () -> planner.improve(-1));
        Check.same("19: two steps", 2, planner.improve(3));
        Check.same("19: plan", "AAABBB", planner.plan());
        Check.same("19: no step", 0, planner.improve(3));
        Check.same("19: one change each", 4, planner.undo());
        Check.same("19: one change each", 3, planner.undo());
        Check.same("19: plan", "AAAAAB", planner.plan());
        Check.same("19: by compactness", 2, planner.improve(0));
        Check.same("19: plan", "AAABBB", planner.plan());
        Planner ring = ring("AAAB");
        Check.same("19: the first of the best moves", 1, ring.improve(3));
        Check.same("19: plan", "ABAB", ring.plan());
        // The swaps of 0 and 3 and of 1 and 2 are equally good then, the first one is done.
        Check.same("19: split communities", 1, ring.improve(2));
        Check.same("19: plan", "BBAA", ring.plan());
        Planner all = complete("u1/1;u2/1;u3/1;u4/1");
        all.setTolerance(99);
        all.read("AABB");
        Check.same("19: the first of the best swaps", 1, all.improve(3));
        Check.same("19: plan", "BAAB", all.plan());
        Planner worse = mapped("u1/1;u1/1;u1/1;b0-1:1;b1-2:1");
        worse.setTolerance(99);
        worse.read("AAB");
        Check.same("19: no step to an equal plan", 0, worse.improve(3));
        Check.same("19: plan", "AAB", worse.plan());
        Planner cut = mapped("u1/1;u1/1;u1/1;b0-1:1;b1-2:5");
        cut.setTolerance(99);
        cut.read("AAB");
        Check.same("19: by cut length", 1, cut.improve(1));
        Check.same("19: plan", "ABB", cut.plan());
    }

    private static void possible() {
        Planner planner = mapped(PATH6);
        failsUnchanged("20: no plan", STATE, planner, () -> planner.possible(true));
        failsUnchanged("20: no plan", STATE, planner, () -> planner.possible(false));
        planner.read("AAABBB");
        Check.same("20: moves", 0, planner.possible(false));
        planner.setTolerance(99);
        planner.read("AAABBB");
        Check.same("20: moves", 2, planner.possible(false));
        Check.same("20: swaps", 0, planner.possible(true));
        Planner all = complete("u1/1;u2/1;u3/1;u4/1");
        all.setTolerance(99);
        all.read("AABB");
        String before = all.state();
        Check.same("20: moves", 4, all.possible(false));
        Check.same("20: swaps", 4, all.possible(true));
        Check.same("20: nothing is changed", before, all.state());
        all.setTolerance(40);
        all.read("AABB");
        Check.same("20: moves", 2, all.possible(false));
        Check.same("20: swaps", 4, all.possible(true));
    }

    private static void plans() {
        Planner planner = empty();
        failsUnchanged("21: no units", STATE, planner, planner::plans);
        planner.extend(PATH6);
        Check.same("21: balanced", 1, planner.plans());
        planner.setTolerance(99);
        Check.same("21: behind setTolerance", 5, planner.plans());
        planner.setDistricts(3);
        Check.same("21: behind setDistricts", 7, planner.plans());
        planner.saveSnapshot();
        planner.undo();
        Check.same("21: behind undo", 5, planner.plans());
        planner.restoreSnapshot();
        Check.same("21: behind restoreSnapshot", 7, planner.plans());
        planner.extend("b0-5:1");
        Check.same("21: behind extend", 2 + 6 * 2, planner.plans());
        planner.clearMap();
        Check.fails("21: behind clearMap", STATE, planner::plans);
        planner.extend("u1/1;u1/1");
        Check.same("21: more districts than units", 0, planner.plans());
        Check.same("21: one unit", 0, mapped("u1/1").plans());
        Check.same("22: one unit", 0, mapped("u1/1").counted());
        Planner nine = complete("u1/1;u1/1;u1/1;u1/1;u1/1;u1/1;u1/1;u1/1;u1/1");
        nine.setDistricts(4);
        nine.setTolerance(99);
        Check.same("21: nine units", 6930, nine.plans());
        Check.same("22: nine units", 6930, nine.counted());
        Check.same("23: the last plan", "ABCD",
                "" + (char) ('A' + nine.planned(6929, 0)) + (char) ('A' + nine.planned(6929, 1))
                + (char) ('A' + nine.planned(6929, 2)) + (char) ('A' + nine.planned(6929, 3)));
        Check.fails("23: behind the last plan", ELEMENT, () -> nine.planned(6930, 0));
        nine.extend("u1/1");
        failsUnchanged("21: ten units", STATE, nine, nine::plans);
        Planner cores = mapped("u1/1@1!;u1/1;u1/1;u1/1@1!;b0-1:1;b1-2:1;b2-3:1;b3-0:1");
        cores.setTolerance(99);
        Check.same("21: cores", 3, cores.plans());
        Check.same("22: cores", 3, cores.counted());
    }

    private static void counted() {
        Planner planner = empty();
        failsUnchanged("22: no units", STATE, planner, planner::counted);
        planner.extend(PATH6);
        Check.same("22: balanced", 1, planner.counted());
        planner.setTolerance(99);
        Check.same("22: behind setTolerance", 5, planner.counted());
        planner.setDistricts(3);
        Check.same("22: behind setDistricts", 7, planner.counted());
        planner.undo();
        Check.same("22: behind undo", 5, planner.counted());
        planner.setDistricts(4);
        Check.same("22: four districts", planner.plans(), planner.counted());
        planner.extend("b0-5:1;b1-4:2;u3/1;u2/2;b6-7:1;b6-1:1");
        Check.same("22: behind extend", planner.plans(), planner.counted());
        planner.clearMap();
        planner.extend("u1/1;u1/1");
        Check.same("22: more districts than units", 0, planner.counted());
        Planner ten = mapped(PATH6 + ";u1/1;u1/1;u1/1");
        Check.same("22: nine units", 0, ten.counted());
        ten.extend("u1/1");
        failsUnchanged("22: ten units", STATE, ten, ten::counted);
    }

    private static void planned() {
        Planner planner = empty();
        Check.fails("23: no units", STATE, () -> planner.planned(0, 0));
        planner.extend(PATH6);
        planner.setTolerance(99);
        for (int number = 0; number < 5; number++) {
            for (int u = 0; u < 6; u++) {
                Check.same("23: plan " + number + " " + u, u < 5 - number ? 0 : 1, planner.planned(number, u));
            }
        }
        failsUnchanged("23: unit 6", INDEX, planner, () -> planner.planned(0, 6));
        failsUnchanged("23: unit -1", INDEX, planner, () -> planner.planned(99, -1));
        failsUnchanged("23: plan 5", ELEMENT, planner, () -> planner.planned(5, 0));
        failsUnchanged("23: plan -1", ELEMENT, planner, () -> planner.planned(-1, 0));
        planner.extend("u1/1;u1/1;u1/1;u1/1");
        Check.fails("23: ten units", STATE, () -> planner.planned(0, 99));
        Planner all = complete("u1/1;u1/1;u1/1;u1/1");
        all.setDistricts(3);
        all.setTolerance(99);
        StringBuilder listed = new StringBuilder();
        for (int number = 0; number < all.plans(); number++) {
            for (int u = 0; u < 4; u++) {
                listed.append((char) ('A' + all.planned(number, u)));
            }
            listed.append(' ');
        }
        Check.same("23: in ascending order", "AABC ABAC ABBC ABCA ABCB ABCC ", listed.toString());
    }

    private static void best() {
        Planner planner = empty();
        Check.fails("24: no units", STATE, () -> planner.best(0));
        Check.fails("24: no measure before no units", ARGUMENT, () -> planner.best(4));
        planner.extend(PATH6);
        planner.setTolerance(99);
        failsUnchanged("24: measure 4", ARGUMENT, planner, () -> planner.best(4));
        failsUnchanged("24: measure -1", ARGUMENT, planner, () -> planner.best(-1));
        int[] due = {2, 0, 0, 2};
        for (int number = 0; number < 4; number++) {
            Check.same("24: best " + number, due[number], planner.best(number));
        }
        planner.extend("b1-2:2;b3-4:2;b2-3:2;b0-1:3");
        Check.same("24: the shortest cut", 0, planner.best(1));
        planner.extend("b4-5:2;b3-4:1");
        Check.same("24: the shortest cut", 1, planner.best(1));
        planner.setDistricts(4);
        planner.clearMap();
        planner.extend("u1/1;u1/1;u1/1");
        failsUnchanged("24: no plans", ELEMENT, planner, () -> planner.best(2));
        Planner cores = mapped("u1/1;u1/1@1;u1/1@1;u1/1@2;u1/1@2;b0-1:1;b1-2:1;b2-3:1;b3-4:1");
        cores.setTolerance(99);
        Check.same("24: the fewest split communities", 1, cores.best(2));
    }

    private static void choose() {
        Planner planner = empty();
        Check.fails("25: no units", STATE, () -> planner.choose(0));
        planner.extend(PATH6);
        planner.setTolerance(99);
        failsUnchanged("25: plan -1", ELEMENT, planner, () -> planner.choose(-1));
        failsUnchanged("25: plan 5", ELEMENT, planner, () -> planner.choose(5));
        Check.same("25: a district at all", 6, planner.choose(2));
        Check.same("25: plan", "AAABBB", planner.plan());
        Check.same("25: other districts", 1, planner.choose(1));
        Check.same("25: plan", "AAAABB", planner.plan());
        Check.same("25: the same plan", 0, planner.choose(1));
        planner.read("BBBBAA");
        Check.same("25: all others", 6, planner.choose(1));
        Check.same("25: undo", 6, planner.undo());
        Check.same("25: undo", "BBBBAA", planner.plan());
        planner.undo();
        Check.same("25: the same plan is a change", 4, planner.undo());
        planner.undo();
        planner.undo();
        Check.same("25: no plan", 0, planner.count(6));
        failsUnchanged("25: plan 5", ELEMENT, planner, () -> planner.choose(5));
        planner.extend("u1/1;u1/1;u1/1;u1/1");
        Check.fails("25: ten units", STATE, () -> planner.choose(0));
    }

    private static void store() {
        Planner planner = mapped(RING);
        Check.fails("26: no plan", STATE, () -> planner.store(0, true));
        Check.fails("26: no row before no plan", INDEX, () -> planner.store(3, true));
        planner.setTolerance(99);
        planner.read("AAAB");
        failsUnchanged("26: row 3", INDEX, planner, () -> planner.store(3, false));
        failsUnchanged("26: row -1", INDEX, planner, () -> planner.store(-1, true));
        Check.same("26: exact", 2, planner.store(0, true));
        Check.same("26: floats", 2, planner.store(2, false));
        Check.same("26: exact", asBits(15f), planner.bits(0, 0));
        Check.same("26: exact", asBits(5f), planner.bits(0, 1));
        Check.same("26: floats", asBits(160f / 64f), planner.bits(2, 0));
        Check.same("26: floats", asBits(32f / 25f), planner.bits(2, 1));
        Check.same("26: no change", 3, planner.undoable());
        planner.clearMap();
        Check.same("26: rows stay", asBits(15f), planner.bits(0, 0));
        planner.extend("u7/1;u8/1;u9/1");
        planner.setDistricts(3);
        planner.setTolerance(50);
        planner.read("ABC");
        Check.same("26: a new row", 3, planner.store(2, true));
        Check.same("26: a new row", asBits(9f), planner.bits(2, 2));
        Check.same("26: a new row", 3, planner.store(0, false));
        Check.same("26: a new row", 0, planner.bits(0, 2));
        Check.same("26: sum of a new row", 24, planner.copyRow(2, 2, 0));
    }

    private static void copyRow() {
        Planner planner = ring("AAAB");
        planner.store(0, true);
        planner.store(1, false);
        failsUnchanged("27: row 3", ARGUMENT, planner, () -> planner.copyRow(0, 3, 0));
        failsUnchanged("27: row -1", ARGUMENT, planner, () -> planner.copyRow(-1, 0, 0));
        failsUnchanged("27: no row before missing", ARGUMENT, planner, () -> planner.copyRow(2, -1, 0));
        failsUnchanged("27: to a missing one", ELEMENT, planner, () -> planner.copyRow(0, 2, 0));
        failsUnchanged("27: from a missing one", ELEMENT, planner, () -> planner.copyRow(2, 0, -1));
        failsUnchanged("27: kinds", UNSUPPORTED, planner, () -> planner.copyRow(0, 1, 1));
        failsUnchanged("27: kinds before count", UNSUPPORTED, planner, () -> planner.copyRow(1, 0, 9));
        failsUnchanged("27: count -1", INDEX, planner, () -> planner.copyRow(0, 0, -1));
        failsUnchanged("27: count 3", INDEX, planner, () -> planner.copyRow(0, 0, 3));
        String before = planner.state();
        Check.same("27: the same row", 20, planner.copyRow(0, 0, 2));
        Check.same("27: without the fractions", 3, planner.copyRow(1, 1, 2));
        Check.same("27: nothing is changed", before, planner.state());
        planner.clearMap();
        planner.extend("u7/1;u8/1;u9/1;o0:3;o1:5;o2:9");
        planner.setDistricts(3);
        planner.setTolerance(50);
        planner.read("ABC");
        planner.store(2, true);
        Check.same("27: two of three", 15 + 5 + 9, planner.copyRow(0, 2, 2));
        Check.same("27: element 1", asBits(5f), planner.bits(2, 1));
        Check.same("27: element 2", asBits(9f), planner.bits(2, 2));
        planner.store(2, true);
        Check.same("27: to the shorter row", 7 + 5, planner.copyRow(2, 0, 1));
        Check.same("27: element 0", asBits(7f), planner.bits(0, 0));
        failsUnchanged("27: above the target", INDEX, planner, () -> planner.copyRow(2, 0, 3));
        failsUnchanged("27: above the source", INDEX, planner, () -> planner.copyRow(0, 2, 3));
        Check.same("27: none", 24, planner.copyRow(0, 2, 0));
        planner.store(2, false);
        Check.same("27: floats", 2 + 0 + 0, planner.copyRow(1, 2, 1));
        Check.same("27: floats", asBits(2.5f), planner.bits(2, 0));
        Check.same("27: floats", asBits(16f / 25f), planner.bits(2, 1));
        Check.same("27: floats", 2 + 1, planner.copyRow(2, 1, 0));
    }

    private static void bits() {
        Planner planner = ring("AAAB");
        Check.fails("28: missing", ELEMENT, () -> planner.bits(0, 0));
        planner.store(0, false);
        failsUnchanged("28: row 3", INDEX, planner, () -> planner.bits(3, 0));
        failsUnchanged("28: row -1", INDEX, planner, () -> planner.bits(-1, 9));
        failsUnchanged("28: element 2", ELEMENT, planner, () -> planner.bits(0, 2));
        failsUnchanged("28: element -1", ELEMENT, planner, () -> planner.bits(0, -1));
        failsUnchanged("28: missing", ELEMENT, planner, () -> planner.bits(1, 0));
        for (int people = 1; people < 100; people++) {
            Planner pair = mapped("u" + people + "/" + (100 - people) + ";u" + people + "/" + people
                    + ";o0:" + people % 10 + ";b0-1:" + (people % 9 + 1));
            pair.read("AB");
            pair.store(1, true);
            pair.store(2, false);
            int perimeter = people % 10 + people % 9 + 1;
            int inner = people % 9 + 1;
            Check.same("28: people " + people, asBits(people), pair.bits(1, 1));
            Check.same("28: rough " + people, asBits(16f * (100 - people) / (perimeter * perimeter)),
                    pair.bits(2, 0));
            Check.same("28: rough " + people, asBits(16f * people / (inner * inner)), pair.bits(2, 1));
        }
        Planner least = leastCompact();
        least.store(0, false);
        Check.same("28: the least", asBits(16f * 6f / (378f * 378f)), least.bits(0, 0));
        Check.same("28: the greatest of this plan", asBits(16f * 594f / (324f * 324f)), least.bits(0, 1));
        least.store(0, true);
        Check.same("28: whole", asBits(594f), least.bits(0, 0));
    }

    private static void undo() {
        Planner planner = empty();
        failsUnchanged("29: none", STATE, planner, planner::undo);
        planner.extend(RING);
        for (int tolerance = 90; tolerance < 99; tolerance++) {
            planner.setTolerance(tolerance);
        }
        for (int left = 7; left >= 0; left--) {
            Check.same("29: undo", left, planner.undo());
            Check.same("29: tolerance", 90 + left, planner.count(5));
        }
        failsUnchanged("29: only eight", STATE, planner, planner::undo);
        planner.setTolerance(99);
        planner.read("AABB");
        planner.swap(1, 2);
        planner.move(2, 1);
        planner.improve(3);
        planner.choose(0);
        planner.setDistricts(3);
        planner.clearMap();
        planner.type("xyz");
        Check.same("29: undo clearMap", 7, planner.undo());
        Check.same("29: map", 4, planner.count(0));
        Check.same("29: border", 3, planner.border(1, 3));
        Check.same("29: core", 1, planner.unit(3, 3));
        Check.same("29: number of districts", 3, planner.count(4));
        String[] plans = {"AAAB", improved(), "ABBB", "ABAB", "AABB", "----"};
        for (int i = 0; i < plans.length; i++) {
            Check.same("29: undo", 6 - i, planner.undo());
            Check.same("29: plan", plans[i], planner.plan());
        }
        Check.same("29: input stays", 3, planner.count(9));
        Check.same("29: the last one", 0, planner.undo());
        Check.same("29: tolerance", 90, planner.count(5));
        Check.same("29: a new change", 2, planner.setDistricts(3));
        Check.same("29: a new change", 0, planner.undo());
    }

    private static String improved() {
        Planner planner = ring("ABBB");
        planner.improve(3);
        return planner.plan();
    }

    private static void snapshots() {
        Planner planner = empty();
        failsUnchanged("31: none", STATE, planner, planner::restoreSnapshot);
        Check.same("30: empty", 0, planner.saveSnapshot());
        planner.extend(RING);
        planner.setTolerance(99);
        planner.setDistricts(2);
        planner.read("AABB");
        Check.same("31: empty", 0, planner.restoreSnapshot());
        Check.same("31: tolerance", 10, planner.count(5));
        Check.same("31: no plan", 0, planner.count(6));
        Check.fails("31: no undo", STATE, planner::undo);
        Planner ring = ring("AABB");
        Check.same("30: saveSnapshot", 4, ring.saveSnapshot());
        ring.swap(1, 2);
        ring.store(0, true);
        ring.type("uvw");
        Check.same("30: it is no change", 3, ring.undo());
        ring.setTolerance(3);
        ring.setDistricts(4);
        ring.clearMap();
        for (int round = 0; round < 2; round++) {
            Check.same("31: restoreSnapshot", 4, ring.restoreSnapshot());
            Check.same("31: plan", "AABB", ring.plan());
            Check.same("31: counts", "99 2 4 3", ring.count(5) + " " + ring.count(4) + " " + ring.count(1)
                    + " " + ring.border(1, 3));
            Check.same("31: cores", 1, ring.unit(0, 3));
            Check.fails("31: no undo", STATE, ring::undo);
            Check.same("31: input stays", 3, ring.count(9));
            Check.same("31: rows stay", asBits(10f), ring.bits(0, 0));
            ring.move(2, 0);
        }
        Check.same("31: a change afterwards", 0, ring.undo());
        ring.extend();
        ring.extend("u1/1");
        Check.same("30: another one", 5, ring.saveSnapshot());
        ring.clearMap();
        Check.same("31: another one", 5, ring.restoreSnapshot());
    }

    private static void letter() {
        Planner planner = mapped("u1/1;u1/1;u1/1;u1/1");
        Check.fails("32: no plan", STATE, () -> planner.letter(3));
        Check.fails("32: no unit before no plan", INDEX, () -> planner.letter(4));
        planner.setDistricts(4);
        planner.read("bdca");
        Check.same("32: letter", 'B', planner.letter(0));
        Check.same("32: letter", 'D', planner.letter(1));
        Check.same("32: letter", 'C', planner.letter(2));
        Check.same("32: letter", 'A', planner.letter(3));
        failsUnchanged("32: unit 4", INDEX, planner, () -> planner.letter(4));
        failsUnchanged("32: unit -1", INDEX, planner, () -> planner.letter(-1));
    }
}
