import java.util.NoSuchElementException;

/** What the tests by hand share. */
abstract class Bench {
    private static Document document = null;

    static final Class<IllegalStateException> STATE = IllegalStateException.class;
    static final Class<IllegalArgumentException> ARGUMENT = IllegalArgumentException.class;
    static final Class<IndexOutOfBoundsException> INDEX = IndexOutOfBoundsException.class;
    static final Class<UnsupportedOperationException> UNSUPPORTED = UnsupportedOperationException.class;
    static final Class<NoSuchElementException> ELEMENT = NoSuchElementException.class;

    static final int LEAST = Integer.MIN_VALUE;
    static final int GREATEST = Integer.MAX_VALUE;

    // A square of four units round a ring 0-1-3-2-0; 0 and 3 are cores of the communities 0 and 1.
    static final String RING = "u5/4@0!;u5/4@0;u5/2@1;u5/2@1!;b0-1:2;b1-3:3;b3-2:2;b0-2:1;o0:3";
    static final String PATH6 = "u1/1;u1/1;u1/1;u1/1;u1/1;u1/1;b0-1:1;b1-2:1;b2-3:1;b3-4:1;b4-5:1";

    /** From here on, clauses of this document are tested. */
    static void testsOf(Document tested) {
        document = tested;
    }

    /** The next checks test this clause of a promise. */
    static void promise(int number, String clause) {
        about("Promise " + number, clause);
    }

    /** The next checks test this clause of the description. */
    static void description(String clause) {
        about("Description", clause);
    }

    static void about(String part, String clause) {
        Check.about(part + ", '" + clause + "'");
        Check.same("a clause of the document", true, document.quote(part, clause));
    }

    static Planner empty() {
        return new Planner();
    }

    static Planner mapped(String text) {
        Planner planner = empty();
        planner.extend(text);
        return planner;
    }

    /** A planner with a map and a plan of it that must be lawful. */
    static Planner planned(String text, int districts, int tolerance, String plan) {
        Planner planner = mapped(text);
        if (districts != 2) {
            planner.setDistricts(districts);
        }
        planner.setTolerance(tolerance);
        Check.same("readPlan " + plan, 0, planner.read(plan));
        return planner;
    }

    static Planner ring(String plan) {
        return planned(RING, 2, 99, plan);
    }

    /** So many units of population and area 1. */
    static String units(int count) {
        return "u1/1;".repeat(count).substring(0, 5 * count - 1);
    }

    /** Units all of which have borders of length 1 with each other. */
    static Planner complete(String units) {
        Planner planner = mapped(units);
        int count = units.split(";").length;
        StringBuilder borders = new StringBuilder();
        for (int u = 0; u < count; u++) {
            for (int v = 0; v < u; v++) {
                borders.append(borders.length() == 0 ? "" : ";").append("b" + u + "-" + v + ":1");
            }
        }
        planner.extend(borders.toString());
        return planner;
    }

    /** Six units against six with the longest borders and outer lengths. */
    static Planner leastCompact() {
        StringBuilder text = new StringBuilder("u99/1;u99/1;u99/1;u99/1;u99/1;u99/1;u99/99;u99/99;u99/99;u99/99;u99/99;"
                + "u99/99;o0:9;o1:9;o2:9;o3:9;o4:9;o5:9;b0-1:1;b1-2:1;b2-3:1;b3-4:1;b4-5:1;b6-7:1;b7-8:1;b8-9:1;"
                + "b9-10:1;b10-11:1");
        for (int u = 0; u < 6; u++) {
            for (int v = 6; v < 12; v++) {
                text.append(";b" + u + "-" + v + ":9");
            }
        }
        return planned(text.toString(), 2, 0, "AAAAAABBBBBB");
    }

    /** The call throws what is due and leaves the state as it was, but for the parts that are named. */
    static void failsUnchanged(String call, Class<? extends RuntimeException> due, Planner planner,
            Check.Call run, String... changed) {
        String before = planner.state(changed);
        Check.fails(call, due, run);
        Check.same("the state behind " + call, before, planner.state(changed));
    }

    /** The call answers what is due and leaves the state as it was, but for the parts that are named. */
    static void sameUnchanged(String call, Object due, Planner planner, Check.Call run, String... changed) {
        String before = planner.state(changed);
        Check.same(call, due, run.run());
        Check.same("the state behind " + call, before, planner.state(changed));
    }

    static int asBits(float number) {
        return Float.floatToIntBits(number);
    }
}
