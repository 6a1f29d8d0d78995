/** The boundary cases of rows: the description, and the promises 26 to 28. */
final class RowBoundaries extends Bench {
    private static final int[] NO_ROW = {LEAST, -1, 3, 4, 32, 256, GREATEST};

    private RowBoundaries() {
    }

    static void run() {
        rows();
        kinds();
        store();
        storeThrows();
        copyRow();
        copyRowSums();
        copyRowThrows();
        bits();
    }

    /** Single units with these populations in districts of their own; unit u has the outer length u. */
    private static Planner people(int... populations) {
        StringBuilder text = new StringBuilder();
        for (int u = 0; u < populations.length; u++) {
            text.append(u == 0 ? "" : ";").append("u" + populations[u] + "/" + (u + 1) + ";o" + u + ":" + u);
        }
        return planned(text.toString(), populations.length, 99, "ABCD".substring(0, populations.length));
    }

    /** Other units instead of those that there are. */
    private static void become(Planner planner, int districts, String text, String plan) {
        planner.clearMap();
        planner.extend(text);
        planner.setDistricts(districts);
        Check.same("readPlan " + plan, 0, planner.read(plan));
    }

    private static void elements(Planner planner, int row, float... due) {
        for (int i = 0; i < due.length; i++) {
            Check.same("bits " + row + " " + i, asBits(due[i]), planner.twin().bits(row, i));
        }
        Check.fails("no more elements", ELEMENT, () -> planner.twin().bits(row, due.length));
    }

    // ---- "Rows"

    private static void rows() {
        description("There are 3 rows, numbered from 0, at first missing");
        Planner planner = people(20, 30);
        for (int row = 0; row < 3; row++) {
            int missing = row;
            failsUnchanged("bits of row " + row, ELEMENT, planner, () -> planner.bits(missing, 0));
            failsUnchanged("copyRow " + row, ELEMENT, planner, () -> planner.copyRow(missing, missing, 0));
        }
        for (int row = 0; row < 3; row++) {
            Check.same("store " + row, 2, planner.store(row, true));
            Check.same("bits of row " + row, asBits(30f), planner.bits(row, 1));
            for (int other = row + 1; other < 3; other++) {
                int missing = other;
                Check.fails("row " + other + " is missing", ELEMENT, () -> planner.bits(missing, 1));
            }
        }
        for (int row : NO_ROW) {
            failsUnchanged("store " + row, INDEX, planner, () -> planner.store(row, true));
            failsUnchanged("bits " + row, INDEX, planner, () -> planner.bits(row, 0));
        }
    }

    private static void kinds() {
        description("A row holds numbers of the districts of a plan: whole ones, or floating-point ones of type float");
        Planner planner = people(20, 30, 25);
        planner.store(0, true);
        planner.store(1, false);
        planner.store(2, true);
        elements(planner, 0, 20f, 30f, 25f);
        elements(planner, 1, 0f, 32f, 12f);
        Check.same("whole to whole", 75, planner.copyRow(0, 2, 3));
        failsUnchanged("whole to floats", UNSUPPORTED, planner, () -> planner.copyRow(0, 1, 3));
        failsUnchanged("floats to whole", UNSUPPORTED, planner, () -> planner.copyRow(1, 2, 0));
        planner.store(2, false);
        Check.same("floats to floats", 44, planner.copyRow(1, 2, 3));
        failsUnchanged("floats to whole", UNSUPPORTED, planner, () -> planner.copyRow(2, 0, 1));
    }

    // ---- promises 26 to 28

    private static void store() {
        promise(26, "Stores numbers of the districts of the present plan as a new row");
        Planner planner = people(20, 30, 25, 27);
        Check.same("four", 4, planner.store(1, true));
        elements(planner, 1, 20f, 30f, 25f, 27f);
        become(planner, 2, "u5/1;u6/2;o0:1;o1:4", "BA");
        elements(planner, 1, 20f, 30f, 25f, 27f);
        Check.same("two instead of four", 2, planner.store(1, true));
        elements(planner, 1, 6f, 5f);
        Check.same("the sum of the new row", 11, planner.copyRow(1, 1, 0));
        become(planner, 3, "u5/1;u6/2;u7/3", "ABC");
        Check.same("three instead of two", 3, planner.store(1, false));
        elements(planner, 1, 0f, 0f, 0f);
        Check.same("whole ones again", 3, planner.store(1, true));
        elements(planner, 1, 5f, 6f, 7f);
        promise(26, "`isExact`: true for the populations, as whole numbers");
        Planner many = planned("u99/1;u99/1;u99/1;u99/1;u99/1;u99/1;u99/1;u99/1;u99/1;u99/1;u99/1;u11/1;b0-1:1;b1-2:1;"
                + "b2-3:1;b3-4:1;b4-5:1;b5-6:1;b6-7:1;b7-8:1;b8-9:1;b9-10:1", 2, 99, "AAAAAAAAAAAB");
        many.store(0, true);
        elements(many, 0, 1089f, 11f);
        promise(26, "false for the compactness as in meanCompactness, as floats");
        Planner rough = planned("u1/97;u1/98;u1/5;u1/99;o0:7;o1:9;o3:3", 4, 99, "DABC");
        rough.store(2, false);
        elements(rough, 2, 1568f / 81f, 0f, 1584f / 9f, 1552f / 49f);
        promise(26, "Returns the number of elements");
        Check.same("two", 2, people(2, 2).store(0, false));
        Check.same("three", 3, people(2, 2, 2).store(0, true));
        Check.same("four", 4, people(2, 2, 2, 2).store(2, false));
    }

    private static void storeThrows() {
        promise(26, "Throws `IndexOutOfBoundsException` if there is no such row");
        Planner planner = people(20, 30);
        for (int row : NO_ROW) {
            failsUnchanged("store " + row + " whole", INDEX, planner, () -> planner.store(row, true));
            failsUnchanged("store " + row + " floats", INDEX, planner, () -> planner.store(row, false));
            Check.fails("store " + row + " without a plan", INDEX, () -> empty().store(row, true));
        }
        promise(26, "Throws `IllegalStateException` if there is no present plan");
        planner.store(0, true);
        planner.store(1, false);
        planner.setTolerance(99);
        for (int row = 0; row < 3; row++) {
            int asked = row;
            failsUnchanged("store " + row + " whole", STATE, planner, () -> planner.store(asked, true));
            failsUnchanged("store " + row + " floats", STATE, planner, () -> planner.store(asked, false));
        }
        elements(planner, 0, 20f, 30f);
    }

    private static void copyRow() {
        promise(27, "Copies elements from the beginning of a row to the beginning of another row, or the same one");
        for (int count = 0; count <= 4; count++) {
            Planner planner = people(11, 12, 13, 14);
            planner.store(0, true);
            become(planner, 4, "u21/1;u22/1;u23/1;u24/1", "ABCD");
            planner.store(2, true);
            float[] due = new float[4];
            for (int i = 0; i < 4; i++) {
                due[i] = i < count ? 11 + i : 21 + i;
            }
            Check.same("copyRow 0 2 " + count, 90 - 10 * count, planner.copyRow(0, 2, count));
            elements(planner, 2, due);
            elements(planner, 0, 11f, 12f, 13f, 14f);
            sameUnchanged("the same row", 50, planner, () -> planner.copyRow(0, 0, 4));
            sameUnchanged("the same row", 50, planner, () -> planner.copyRow(0, 0, 2));
        }
        // Rows of different sizes: the size of neither changes, and later copies do not reach back.
        Planner planner = people(11, 12, 13, 14);
        planner.store(0, true);
        become(planner, 2, "u21/1;u22/1", "AB");
        planner.store(1, true);
        Check.same("two of four", 23, planner.copyRow(0, 1, 2));
        elements(planner, 1, 11f, 12f);
        planner.store(1, true);
        Check.same("two to four", 21 + 22 + 13 + 14, planner.copyRow(1, 0, 2));
        elements(planner, 0, 21f, 22f, 13f, 14f);
        planner.copyRow(0, 1, 1);
        elements(planner, 1, 21f, 22f);
        Planner floats = people(1, 1, 1);
        floats.store(0, false);
        become(floats, 3, "u1/3;u1/3;u1/3;o0:1;o1:2;o2:3", "ABC");
        floats.store(1, false);
        Check.same("two floats", 0 + 32 + 5, floats.copyRow(0, 1, 2));
        elements(floats, 1, 0f, 32f, 48f / 9f);
    }

    private static void copyRowSums() {
        promise(27, "Returns the sum of all elements of the row to which they were copied, as they are then, each as a "
                + "whole number without its fraction");
        // 1.28, 2.56 and 3.84: each loses its fraction, not their sum 7.68.
        Planner planner = planned("u1/2;u1/4;u1/6;o0:5;o1:5;o2:5", 3, 99, "ABC");
        planner.store(0, false);
        Check.same("each without its fraction", 6, planner.copyRow(0, 0, 0));
        Check.same("each without its fraction", 6, planner.copyRow(0, 0, 3));
        Planner small = planned("u1/5;u1/5;o0:9;o1:9", 2, 99, "AB");
        small.store(2, false);
        Check.same("0.98 twice", 0, small.copyRow(2, 2, 2));
        Planner halves = planned("u1/6;u1/6;o0:8;o1:8", 2, 99, "AB");
        halves.store(2, false);
        Check.same("1.5 twice", 2, halves.copyRow(2, 2, 1));
        Planner great = planned("u99/99;u99/99;u99/99;u99/99;o0:1;o1:1;b2-3:9;o2:1", 3, 99, "ABCC");
        great.store(0, false);
        Check.same("the greatest", 1584 + 1584 + 3168, great.copyRow(0, 0, 0));
        great.store(0, true);
        Check.same("whole ones", 396, great.copyRow(0, 0, 3));
        become(great, 2, "u1/1;u2/1", "AB");
        great.store(1, true);
        Check.same("all of the longer row", 1 + 2 + 198, great.copyRow(1, 0, 2));
        Check.same("only the shorter row", 3, great.copyRow(0, 1, 2));
    }

    private static void copyRowThrows() {
        Planner planner = people(20, 30, 25);
        planner.store(0, true);
        planner.store(1, false);
        promise(27, "Throws `IllegalArgumentException` if there is no such row");
        for (int row : NO_ROW) {
            failsUnchanged("from " + row, ARGUMENT, planner, () -> planner.copyRow(row, 0, 1));
            failsUnchanged("to " + row, ARGUMENT, planner, () -> planner.copyRow(0, row, 1));
            failsUnchanged("from a missing one to " + row, ARGUMENT, planner, () -> planner.copyRow(2, row, 1));
            failsUnchanged("from " + row + " to a missing one", ARGUMENT, planner, () -> planner.copyRow(row, 2, -1));
        }
        promise(27, "Throws `NoSuchElementException` if one of the rows is missing");
        failsUnchanged("from a missing one", ELEMENT, planner, () -> planner.copyRow(2, 0, 0));
        failsUnchanged("to a missing one", ELEMENT, planner, () -> planner.copyRow(0, 2, 0));
        failsUnchanged("to a missing one", ELEMENT, planner, () -> planner.copyRow(1, 2, 9));
        failsUnchanged("both", ELEMENT, planner, () -> planner.copyRow(2, 2, -1));
        promise(27, "Throws `UnsupportedOperationException` if one row has whole numbers and the other one floats");
        for (int count : new int[] {LEAST, -1, 0, 1, 3, 4, GREATEST}) {
            failsUnchanged("whole to floats", UNSUPPORTED, planner, () -> planner.copyRow(0, 1, count));
            failsUnchanged("floats to whole", UNSUPPORTED, planner, () -> planner.copyRow(1, 0, count));
        }
        promise(27, "Throws `IndexOutOfBoundsException` if count is negative or above the number of elements of one of "
                + "both rows");
        become(planner, 2, "u7/1;u8/1", "AB");
        planner.store(2, true);
        for (int count : new int[] {LEAST, -2, -1, 3, 4, 5, GREATEST}) {
            failsUnchanged("above the target", INDEX, planner, () -> planner.copyRow(0, 2, count));
            failsUnchanged("above the source", INDEX, planner, () -> planner.copyRow(2, 0, count));
            failsUnchanged("above both", INDEX, planner, () -> planner.copyRow(2, 2, count));
        }
        failsUnchanged("above the whole row", INDEX, planner, () -> planner.copyRow(0, 0, 4));
        failsUnchanged("above the floats", INDEX, planner, () -> planner.copyRow(1, 1, 4));
        sameUnchanged("all of the floats", 44, planner, () -> planner.copyRow(1, 1, 3));
        sameUnchanged("all of the whole row", 75, planner, () -> planner.copyRow(0, 0, 3));
        Check.same("as many as there are", 50, planner.copyRow(0, 2, 2));
    }

    private static void bits() {
        promise(28, "Returns the bits of an element of a row, as a float, by Float.floatToIntBits");
        for (int area = 1; area < 100; area += 7) {
            for (int length = 0; length < 10; length++) {
                Planner planner = planned("u" + area + "/" + area + ";u" + area + "/1;o0:" + length + ";o1:1", 2, 99, "AB");
                planner.store(0, false);
                planner.store(1, true);
                float due = length == 0 ? 0f : (float) (16 * area) / (float) (length * length);
                Check.same("bits of " + due, asBits(due), planner.bits(0, 0));
                Check.same("bits of " + area, asBits(area), planner.bits(1, 0));
            }
        }
        Planner zero = people(9, 9);
        zero.store(0, false);
        Check.same("bits of 0", 0, zero.bits(0, 0));
        Check.same("bits of 32", 0x42000000, zero.bits(0, 1));
        zero.store(0, true);
        Check.same("bits of 9", 0x41100000, zero.bits(0, 0));
        promise(28, "Throws `IndexOutOfBoundsException` if there is no such row");
        for (int row : NO_ROW) {
            failsUnchanged("bits " + row + " 0", INDEX, zero, () -> zero.bits(row, 0));
            failsUnchanged("bits " + row + " -1", INDEX, zero, () -> zero.bits(row, -1));
        }
        promise(28, "Throws `NoSuchElementException` if the row is missing or has no such element");
        for (int i : new int[] {LEAST, -1, 2, 3, 4, GREATEST}) {
            failsUnchanged("bits 0 " + i, ELEMENT, zero, () -> zero.bits(0, i));
            failsUnchanged("bits of a missing row", ELEMENT, zero, () -> zero.bits(1, i));
        }
        failsUnchanged("bits of a missing row", ELEMENT, zero, () -> zero.bits(2, 0));
        Check.same("the last element", asBits(9f), zero.bits(0, 1));
        Planner four = people(9, 9, 9, 8);
        four.store(1, true);
        Check.same("the last of four", asBits(8f), four.bits(1, 3));
        failsUnchanged("behind the last of four", ELEMENT, four, () -> four.bits(1, 4));
    }
}
