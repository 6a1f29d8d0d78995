/** The boundary cases of maps and of the texts that extend them: the description, and the promises 1 to 8. */
final class MapBoundaries extends Bench {
    private static final String TWELVE = "u1/12;u2/11;u3/10;u4/9;u5/8;u6/7;u7/6;u8/5;u9/4;u10/3;u11/2;u12/1";
    private static final int[] NO_SUCH_WHAT = {LEAST, -1, 10, 11, 32, 256, GREATEST};

    private MapBoundaries() {
    }

    static void run() {
        calls();
        maps();
        grammar();
        statements();
        newObject();
        feed();
        extend();
        impossible();
        clearMap();
        unit();
        border();
        count();
    }

    // ---- texts

    private static void extended(Planner planner, String text, int units) {
        Check.same(text, units, planner.extend(text));
    }

    private static void faulty(Planner planner, String text, int position) {
        sameUnchanged("'" + text + "'", -100 - position, planner, () -> planner.extend(text));
    }

    private static void impossible(Planner planner, String text, int statement) {
        failsUnchanged(text, UNSUPPORTED, planner, () -> planner.extend(text), "impossible");
        Check.same("impossible behind " + text, statement, planner.impossible());
    }

    private static int of(Planner planner, int unit, int what) {
        return planner.unit(unit, what);
    }

    private static String repeated(String statement, int times) {
        return (";" + statement).repeat(times).substring(1);
    }

    // ---- "What it is"

    private static void calls() {
        String clause = "An object is used for at most 512 calls after it has been made";
        about("What it is", clause);
        Planner dear = complete(units(9));
        dear.setDistricts(4);
        while (dear.calls() < 511) {
            if (dear.calls() % 3 == 0) {
                dear.setTolerance(99);
            } else {
                dear.plans();
            }
        }
        Check.same("the 512th call, counted", 6930, dear.counted());
        Planner changed = empty();
        for (int i = 0; i < 503; i++) {
            changed.setTolerance(i % 100);
        }
        for (int left = 7; left >= 0; left--) {
            Check.same("undo behind 503 changes", left, changed.undo());
        }
        Check.same("the 512th call, count", 94, changed.count(5));
        Planner fed = empty();
        for (int i = 0; i < 511; i++) {
            Check.outcome(() -> fed.feed('u'));
        }
        Check.same("the 512th call, count", 80, fed.count(9));
    }

    // ---- "Maps"

    private static void maps() {
        mostUnits();
        populationAndArea();
        outerLength();
        community();
        core();
        borderLength();
        neighbors();
    }

    private static void mostUnits() {
        description("A map has at most 12 units, numbered from 0 in the order in which they are made");
        Planner planner = mapped(TWELVE);
        for (int u = 0; u < 12; u++) {
            Check.same("population of " + u, u + 1, of(planner, u, 0));
        }
        Check.fails("unit 12", INDEX, () -> planner.unit(12, 0));
        impossible(planner, "u13/1", 0);
        impossible(planner, "o11:1;b10-11:1;u13/1", 2);
        Planner eleven = mapped(units(11));
        extended(eleven, "u77/1", 12);
        Check.same("the twelfth", 77, of(eleven, 11, 0));
        impossible(eleven, "u78/1", 0);
        eleven.clearMap();
        extended(eleven, "u79/1", 1);
        Check.same("numbered from 0 again", 79, of(eleven, 0, 0));
        eleven.clearMap();
        extended(eleven, repeated("u1/1", 12), 12);
    }

    private static final String UNIT = "A unit has a population and an area from 1 to 99, an outer length from 0 to 9, "
            + "at first 0, and possibly a community, a digit from 0 to 3";

    private static void populationAndArea() {
        description(UNIT);
        for (int number : new int[] {1, 9, 10, 50, 98, 99}) {
            Planner planner = mapped("u" + number + "/7;u7/" + number);
            Check.same("population " + number, number, of(planner, 0, 0));
            Check.same("area 7", 7, of(planner, 0, 1));
            Check.same("area " + number, number, of(planner, 1, 1));
            Check.same("population 7", 7, of(planner, 1, 0));
        }
        impossible(empty(), "u0/1", 0);
        impossible(empty(), "u1/0", 0);
        faulty(empty(), "u100/1", 3);
        faulty(empty(), "u1/100", 5);
    }

    private static void outerLength() {
        description(UNIT);
        Planner planner = mapped(units(2));
        Check.same("at first", 0, of(planner, 0, 4));
        for (int length : new int[] {9, 1, 0}) {
            extended(planner, "o0:" + length, 2);
            Check.same("outer length", length, of(planner, 0, 4));
            Check.same("of the other one", 0, of(planner, 1, 4));
        }
        faulty(planner, "o0:10", 4);
        planner.extend("o0:5;o1:6");
        planner.clearMap();
        planner.extend(units(2));
        Check.same("at first again", 0, of(planner, 0, 4));
        Check.same("at first again", 0, of(planner, 1, 4));
    }

    private static void community() {
        description(UNIT);
        Planner planner = mapped("u1/1;u1/1@0;u1/1@1;u1/1@2;u1/1@3;u1/1");
        int[] due = {-1, 0, 1, 2, 3, -1};
        for (int u = 0; u < due.length; u++) {
            Check.same("community of " + u, due[u], of(planner, u, 2));
        }
        impossible(planner, "u1/1@4", 0);
        impossible(planner, "u1/1@9!", 0);
        faulty(planner, "u1/1@10", 6);
        planner.clearMap();
        planner.extend("u1/1@2;u1/1");
        Check.same("none behind a unit with one", -1, of(planner, 1, 2));
    }

    private static void core() {
        description("it can be a core unit of it");
        Planner planner = mapped("u1/1@0;u1/1@0!;u1/1@3!;u1/1@3;u1/1");
        int[] due = {0, 1, 1, 0, 0};
        for (int u = 0; u < due.length; u++) {
            Check.same("core " + u, due[u], of(planner, u, 3));
        }
        faulty(planner, "u1/1!", 4);
        Planner next = mapped("u1/1@0!;u1/1;u1/1@0!;u1/1@0");
        Check.same("behind a core unit", "0 0", of(next, 1, 3) + " " + of(next, 3, 3));
        planner.clearMap();
        planner.extend("u1/1@0;u1/1@0;u1/1@3");
        Check.same("no core any more", 0, of(planner, 1, 3));
        Check.same("no core any more", 0, of(planner, 2, 3));
    }

    private static void borderLength() {
        description("Two different units can have a border, with a length from 1 to 9");
        Planner planner = mapped(TWELVE);
        Check.same("none at first", 0, planner.border(0, 11));
        for (int length : new int[] {1, 9, 5}) {
            extended(planner, "b0-11:" + length, 12);
            Check.same("length", length, planner.border(0, 11));
            Check.same("length", length, planner.border(11, 0));
        }
        extended(planner, "b11-10:1", 12);
        Check.same("the last two", 1, planner.border(10, 11));
        Check.same("another border stays", 5, planner.border(0, 11));
        faulty(planner, "b0-11:10", 7);
        impossible(planner, "b0-0:1", 0);
        impossible(planner, "b11-11:9", 0);
        Planner all = complete(units(8));
        Check.same("all pairs", 28, all.count(1));
        for (int u = 0; u < 8; u++) {
            for (int v = 0; v < 8; v++) {
                Check.same("border " + u + " " + v, u == v ? 0 : 1, all.border(u, v));
            }
        }
    }

    private static void neighbors() {
        description("they are neighbors then");
        Planner planner = mapped(TWELVE);
        Check.same("none at first", 0, of(planner, 0, 5));
        planner.extend("b11-0:1");
        Check.same("neighbors of 0", 1 << 11, of(planner, 0, 5));
        Check.same("neighbors of 11", 1, of(planner, 11, 5));
        planner.extend("b0-11:9;b0-10:9");
        Check.same("neighbors of 0", 3 << 10, of(planner, 0, 5));
        planner.extend("b0-11:0");
        Check.same("no longer", 1 << 10, of(planner, 0, 5));
        Check.same("no longer", 0, of(planner, 11, 5));
    }

    // ---- the grammar

    private static void grammar() {
        texts();
        statementForms();
        numbers();
        digits();
        faultPositions();
        endsTooEarly();
        faultsOfFullInputs();
    }

    private static void texts() {
        description("text: statement { \";\" statement }");
        extended(empty(), "u1/1", 1);
        extended(empty(), "u1/1;u1/1", 2);
        extended(empty(), "u1/1;" + repeated("o0:1", 15), 1);
        faulty(empty(), "", 0);
        faulty(empty(), ";", 0);
        faulty(empty(), ";u1/1", 0);
        faulty(empty(), "u1/1;", 5);
        faulty(empty(), "u1/1;;u1/1", 5);
        faulty(empty(), "u1/1,u1/1", 4);
        faulty(empty(), "u1/1:u1/1", 4);
        faulty(empty(), "u1/1u1/1", 4);
        faulty(empty(), "u1/1 ;u1/1", 4);
        faulty(empty(), "u1/1; u1/1", 5);
        faulty(empty(), " u1/1", 0);
        faulty(empty(), "u1/1\n", 4);
    }

    private static void statementForms() {
        description("statement: \"u\" number \"/\" number [ \"@\" digit [ \"!\" ] ] | \"b\" number \"-\" number \":\" "
                + "digit | \"o\" number \":\" digit");
        Planner planner = mapped(units(2));
        extended(planner, "u1/1", 3);
        extended(planner, "u1/1@1", 4);
        extended(planner, "u1/1@1!", 5);
        extended(planner, "b0-1:1", 5);
        extended(planner, "o0:1", 5);
        String[] wrongAt0 = {"U1/1", "B0-1:1", "O0:1", "t1/1", "v1/1", "1/1", "0-1:1", "a", "c", "n", "p", "@", "!",
            "-1", "/", "\u00f51/1", "\u01751/1"};
        for (String text : wrongAt0) {
            faulty(planner.twin(), text, 0);
        }
        String[] wrongAt2 = {"u1-1", "u1:1", "u1.1", "u1 /1", "b0/1:1", "b0:1", "b0,1:1", "o0-1", "o0/1", "o0;1",
            "u1\\1", "u1\u012f1"};
        for (String text : wrongAt2) {
            faulty(planner.twin(), text, 2);
        }
        String[] wrongAt4 = {"u1/1!", "u1/1?1", "u1/1A1", "u1/1-1", "b0-1;1", "b0-1-1", "b0-1/1", "b0-1@1", "b0-1!",
            "o0:1!", "o0:1@", "o0:1:", "o0:1/1"};
        for (String text : wrongAt4) {
            faulty(planner.twin(), text, 4);
        }
        String[] wrongAt6 = {"u1/1@1?", "u1/1@1@1", "u1/1@1 ", "u1/1@1\"", "b0-1:1!", "b0-1:1@", "b0-1:1:1", "b0-1:1-"};
        for (String text : wrongAt6) {
            faulty(planner.twin(), text, 6);
        }
        faulty(planner, "u1/1@!", 5);
        faulty(planner, "u1/1@1!!", 7);
        faulty(planner, "u1/1@1!@1", 7);
        faulty(planner, "u1/1@1!1", 7);
    }

    private static void numbers() {
        description("number: digit [ digit ]");
        Planner planner = mapped(units(2));
        extended(planner, "u9/90", 3);
        extended(planner, "u09/10", 4);
        Check.same("u9/90", "9 90", of(planner, 2, 0) + " " + of(planner, 2, 1));
        Check.same("u09/10", "9 10", of(planner, 3, 0) + " " + of(planner, 3, 1));
        extended(planner, "b00-01:5", 4);
        extended(planner, "b0-03:6", 4);
        extended(planner, "b02-3:7", 4);
        extended(planner, "o03:8", 4);
        Check.same("b00-01:5", 5, planner.border(0, 1));
        Check.same("b0-03:6", 6, planner.border(0, 3));
        Check.same("b02-3:7", 7, planner.border(2, 3));
        Check.same("o03:8", 8, of(planner, 3, 4));
        Object[][] faults = {
            {"u/1", 1}, {"u1/", 3}, {"u1/;", 3}, {"u001/1", 3}, {"u111/1", 3}, {"u1/001", 5}, {"u11/111", 6},
            {"b-1:1", 1}, {"b000-1:1", 3}, {"b0-:1", 3}, {"b0-001:1", 5}, {"b00-001:1", 6}, {"o:1", 1}, {"o000:1", 3},
            {"u-1/1", 1}, {"u+1/1", 1}, {"o-1:1", 1}, {"b0--1:1", 3},
        };
        for (Object[] fault : faults) {
            faulty(planner, (String) fault[0], (Integer) fault[1]);
        }
    }

    private static void digits() {
        description("number: digit [ digit ]");
        Planner planner = mapped(units(11));
        for (char digit = '0'; digit <= '9'; digit++) {
            extended(planner, "o" + digit + ":" + digit, 11);
            Check.same("o" + digit + ":" + digit, digit - '0', of(planner, digit - '0', 4));
        }
        extended(planner, "o10:7", 11);
        Check.same("o10:7", 7, of(planner, 10, 4));
        // In front of '0' and behind '9', letters, and signs that only look like digits or end in their bits.
        char[] none = {'/', ':', ';', 'a', 'A', 'o', ' ', 0, 0x130, 0x131, 0x139, 0x7f, 0xb2, 0x660, 0xff11, 0xffff};
        for (char sign : none) {
            faulty(planner.twin(), "u" + sign + "/1", 1);
            faulty(planner.twin(), "u1/" + sign, 3);
            faulty(planner.twin(), "b0-1:" + sign, 5);
            faulty(planner.twin(), "u1/1@" + sign, 5);
            if (sign != ':') {
                faulty(planner.twin(), "o1" + sign + ":1", 2);
            }
        }
    }

    private static final String FAULT = "The fault position of a text is the offset of the first character that cannot "
            + "continue a text, or the length of the text if it ends too early";

    private static void faultPositions() {
        description(FAULT);
        Planner planner = mapped(units(2));
        String text = "u12/34@3!;b00-01:3;o01:9;u1/1@0;b0-1:2;o0:0;u2/2";
        // A sign that continues no text is the fault wherever it stands, and whatever stands behind it.
        for (int at = 0; at <= text.length(); at++) {
            faulty(planner.twin(), text.substring(0, at) + "x" + text.substring(at), at);
        }
        faulty(planner, "?", 0);
        faulty(planner, "???", 0);
        faulty(planner, "u1/1;b0-1:1;o0:1;?", 17);
        // It comes before a statement that is impossible.
        faulty(planner, "u0/0;b7-7:0;x", 12);
        faulty(planner, "o9:1;", 5);
        extended(planner, text, 5);
    }

    private static void endsTooEarly() {
        description(FAULT);
        String text = "u12/34@3!;b00-01:3;o01:9";
        for (int length = 0; length <= text.length(); length++) {
            Planner planner = mapped(units(2));
            planner.type(text.substring(0, length));
            boolean isText = length == 5 || length == 6 || length == 8 || length == 9 || length == 18 || length == 24;
            int due = !isText ? -100 - length : 3;
            Check.same("the first " + length + " of " + text, due, planner.extend());
        }
    }

    private static void faultsOfFullInputs() {
        description(FAULT);
        Planner planner = mapped("u1/1");
        faulty(planner, repeated("o0:1", 16) + ";", 80);
        faulty(planner, repeated("o0:1", 16) + "1", 79);
        faulty(planner, "u11/1;" + repeated("o0:1", 14) + ";o0:", 79);
    }

    // ---- statements

    private static void statements() {
        kinds();
        order();
        impossibleUnits();
        impossibleBorders();
        impossibleOuterLengths();
    }

    private static void kinds() {
        description("u makes a unit with a population and an area, in the community behind @, as a core unit with an "
                + "exclamation mark");
        Planner planner = mapped("u23/45@2!;u67/89@1;u10/20");
        int[][] due = {{23, 45, 2, 1, 0, 0}, {67, 89, 1, 0, 0, 0}, {10, 20, -1, 0, 0, 0}};
        for (int u = 0; u < due.length; u++) {
            for (int what = 0; what < due[u].length; what++) {
                Check.same("unit " + u + " " + what, due[u][what], of(planner, u, what));
            }
        }
        description("b gives a border with a length to two units, or the border that they have a new length, or takes "
                + "it away with the length 0");
        planner.extend("b0-1:4");
        Check.same("a border", "4 1", planner.border(0, 1) + " " + planner.count(1));
        planner.extend("b1-0:9");
        Check.same("a new length", "9 1", planner.border(0, 1) + " " + planner.count(1));
        planner.extend("b0-1:9");
        Check.same("the same length", "9 1", planner.border(0, 1) + " " + planner.count(1));
        planner.extend("b2-1:1");
        planner.extend("b1-0:0");
        Check.same("taken away", "0 1", planner.border(0, 1) + " " + planner.count(1));
        Check.same("the other one stays", 1, planner.border(1, 2));
        planner.extend("b0-1:1");
        Check.same("a border again", "1 2", planner.border(0, 1) + " " + planner.count(1));
        description("o sets the outer length of a unit");
        planner.extend("o1:9;o2:1");
        Check.same("outer lengths", "0 9 1", of(planner, 0, 4) + " " + of(planner, 1, 4) + " " + of(planner, 2, 4));
        planner.extend("o1:0");
        Check.same("outer lengths", "0 0 1", of(planner, 0, 4) + " " + of(planner, 1, 4) + " " + of(planner, 2, 4));
    }

    private static void order() {
        description("The statements are carried out in their order");
        Planner planner = empty();
        impossible(planner, "b0-1:3;u1/1;u1/1", 0);
        impossible(planner, "u1/1;b0-1:3;u1/1", 1);
        impossible(planner, "o0:1;u1/1", 0);
        extended(planner, "u1/1;o0:2;u2/2;b0-1:3", 2);
        extended(planner, "o0:4;o0:5", 2);
        Check.same("the last length", 5, of(planner, 0, 4));
        extended(planner, "b0-1:0;b0-1:1;b0-1:0;b1-0:6", 2);
        Check.same("the last length", 6, planner.border(0, 1));
        impossible(planner, "b0-1:1;b0-1:0;b0-1:0;b0-1:1", 2);
        impossible(planner, "o0:1;o2:1;u1/1;u0/1", 1);
    }

    private static final String IMPOSSIBLE = "A statement is impossible if it would make a thirteenth unit, a "
            + "population or area is 0, a community is above 3, a unit does not exist, both units of a border are the "
            + "same one, or a border that is to be taken away does not exist";

    private static void impossibleUnits() {
        description(IMPOSSIBLE);
        Planner eleven = mapped(units(11));
        impossible(eleven, "u2/2;u3/3", 1);
        extended(eleven, "u2/2", 12);
        impossible(eleven, "u3/3", 0);
        impossible(eleven, "u0/0@9!", 0);
        extended(eleven, "o11:1", 12);
        Planner planner = empty();
        for (String text : new String[] {"u0/1", "u00/1", "u1/0", "u1/00", "u0/0", "u00/00", "u0/99", "u99/0"}) {
            impossible(planner, text, 0);
        }
        for (int digit = 0; digit < 10; digit++) {
            for (String mark : new String[] {"", "!"}) {
                String text = "u1/1@" + digit + mark;
                if (digit > 3) {
                    impossible(planner, text, 0);
                } else {
                    extended(mapped(units(1)), text, 2);
                }
            }
        }
    }

    private static void impossibleBorders() {
        description(IMPOSSIBLE);
        Planner planner = mapped(units(3));
        extended(planner, "b0-2:1", 3);
        String[] missing = {"b0-3:1", "b3-0:1", "b3-4:1", "b0-12:1", "b12-0:1", "b0-32:1", "b33-0:1", "b64-2:1",
            "b0-99:1", "b99-0:1", "b99-98:9", "b0-3:0", "b3-0:0", "b0-34:0"};
        for (String text : missing) {
            impossible(planner, text, 0);
        }
        String[] same = {"b0-0:1", "b2-2:9", "b1-1:0", "b01-1:1", "b3-3:1", "b3-3:0"};
        for (String text : same) {
            impossible(planner, text, 0);
        }
        impossible(planner, "b0-1:0", 0);
        impossible(planner, "b1-2:0", 0);
        extended(planner, "b2-0:0", 3);
        impossible(planner, "b2-0:0", 0);
        impossible(planner, "b0-2:0", 0);
        impossible(empty(), "b0-1:1", 0);
        Planner twelve = mapped(TWELVE);
        extended(twelve, "b11-10:1", 12);
        impossible(twelve, "b11-12:1", 0);
    }

    private static void impossibleOuterLengths() {
        description(IMPOSSIBLE);
        Planner planner = mapped(units(3));
        extended(planner, "o2:1", 3);
        for (String text : new String[] {"o3:1", "o3:0", "o03:1", "o11:1", "o12:1", "o32:1", "o99:1"}) {
            impossible(planner, text, 0);
        }
        impossible(empty(), "o0:0", 0);
        Planner twelve = mapped(TWELVE);
        extended(twelve, "o11:1", 12);
        impossible(twelve, "o12:1", 0);
    }

    // ---- promises 1 to 8

    private static void newObject() {
        promise(1, "Creates a planner with an empty map");
        int[] counts = {0, 0, 0, 0, 2, 10, 0, 0, 0, 0};
        Planner planner = empty();
        for (int what = 0; what < counts.length; what++) {
            Check.same("count " + what, counts[what], planner.count(what));
        }
        Check.fails("unit 0", INDEX, () -> planner.unit(0, 0));
        Check.fails("border 0 0", INDEX, () -> planner.border(0, 0));
        mapped(RING);
        Check.same("another object's map", 0, planner.count(0));
    }

    private static void feed() {
        promise(2, "Appends a character to the input, which is empty at first");
        Planner planner = empty();
        Check.same("at first", 0, planner.count(9));
        faulty(empty(), "", 0);
        planner.type("u12/34");
        Check.same("in their order", 1, planner.extend());
        Check.same("in their order", "12 34", of(planner, 0, 0) + " " + of(planner, 0, 1));
        char[] signs = {0, 1, 127, 128, 255, 256, 0x7fff, 0x8000, 0xd800, 0xffff};
        for (int i = 0; i < signs.length; i++) {
            Check.same("any character", i + 1, planner.feed(signs[i]));
        }
        promise(2, "Returns the length of the input");
        Planner full = empty();
        for (int length = 1; length <= 80; length++) {
            Check.same("feed", length, full.feed(';'));
            Check.same("count", length, full.twin().count(9));
        }
        feedFull();
    }

    private static void feedFull() {
        promise(2, "Throws `IllegalStateException` if the input has 80 characters");
        Planner planner = mapped("u1/1");
        planner.type("u2/33;" + repeated("o0:1", 14) + ";o0:");
        Check.same("the 80th", 80, planner.feed('7'));
        failsUnchanged("the 81st", STATE, planner, () -> planner.feed('7'));
        failsUnchanged("the 82nd", STATE, planner, () -> planner.feed(';'));
        Check.same("all of the 80", 2, planner.extend());
        Check.same("the 80th", 7, of(planner, 0, 4));
        Check.same("behind extend", 1, planner.feed('x'));
        Planner read = mapped("u1/1");
        read.type("A".repeat(80));
        failsUnchanged("the 81st", STATE, read, () -> read.feed('A'));
        Check.same("readPlan", -101, read.readPlan());
        Check.same("behind readPlan", 1, read.feed('x'));
    }

    private static void extend() {
        extendEmptiesTheInput();
        promise(3, "Either all statements are carried out or none");
        Planner planner = ring("AABB");
        String all = repeated("o1:5", 10) + ";u9/9;b0-3:4;b0-1:0";
        impossible(planner, all + ";o9:1", 13);
        impossible(planner, "o9:1;" + all, 0);
        extended(planner, all, 5);
        Check.same("all", "5 9 4 0", of(planner, 1, 4) + " " + of(planner, 4, 0) + " " + planner.border(0, 3) + " "
                + planner.border(0, 1));
        promise(3, "Returns the number of units");
        Planner growing = empty();
        for (int count = 1; count <= 12; count++) {
            extended(growing, "u1/1", count);
        }
        extended(growing, "o0:0", 12);
        promise(3, "-100 minus the fault position if the input is no text");
        Planner faults = ring("AABB");
        faulty(faults, "", 0);
        faulty(faults, "u", 1);
        faulty(faults, repeated("o0:1", 16) + "1", 79);
        faulty(faults, repeated("o0:1", 16) + ";", 80);
        promise(3, "Throws `UnsupportedOperationException` if a statement is impossible");
        Planner throwing = ring("AABB");
        impossible(throwing, "o4:1", 0);
        extended(throwing, "o3:1", 4);
        promise(3, "its number, from 0, is kept for impossible");
        Planner numbered = mapped("u1/1");
        for (int number = 0; number < 16; number++) {
            String front = number == 0 ? "" : repeated("o0:1", number) + ";";
            impossible(numbered.twin(), front + "o1:1", number);
        }
    }

    private static void extendEmptiesTheInput() {
        promise(3, "Extends the map by the input, which is empty afterwards in any case");
        Planner planner = mapped("u1/1");
        Check.same("behind a text", 0, planner.count(9));
        planner.extend("u1/1;");
        Check.same("behind a fault", 0, planner.count(9));
        Check.fails("an impossible one", UNSUPPORTED, () -> planner.extend("o9:1"));
        Check.same("behind an impossible statement", 0, planner.count(9));
        planner.extend("");
        Check.same("behind nothing", 0, planner.count(9));
        extended(planner, "u2/2", 2);
        Check.same("nothing is left of them", 2, of(planner, 1, 0));
        planner.type("x".repeat(80));
        planner.extend();
        Check.same("behind 80 characters", 1, planner.feed('x'));
    }

    private static void impossible() {
        promise(4, "Returns the number of the statement that was found to be impossible last");
        Planner planner = mapped("u1/1");
        Check.fails("the third", UNSUPPORTED, () -> planner.extend("o0:1;o0:2;o1:1;o2:1"));
        Check.same("the first of two", 2, planner.impossible());
        Check.fails("the second", UNSUPPORTED, () -> planner.extend("o0:1;o1:1"));
        Check.same("the last one found", 1, planner.impossible());
        promise(4, "it stays until another one is found");
        sameUnchanged("impossible", 1, planner, planner::impossible);
        planner.extend("u1/1");
        planner.extend("o9:");
        planner.clearMap();
        planner.undo();
        planner.saveSnapshot();
        planner.restoreSnapshot();
        Check.fails("readPlan", UNSUPPORTED, () -> planner.extend("o0:1;o7:1"));
        Check.same("the same number", 1, planner.impossible());
        planner.extend("o1:1");
        Check.same("behind a success", 1, planner.impossible());
        Check.fails("another one", UNSUPPORTED, () -> planner.extend("u0/1"));
        promise(4, "Returns the number of the statement, from 0");
        Check.same("the first statement", 0, planner.impossible());
        promise(4, "Throws `NoSuchElementException` if none was");
        Planner none = empty();
        failsUnchanged("at first", ELEMENT, none, none::impossible);
        none.extend("u0/0;");
        none.extend("u1/1");
        none.read("A");
        failsUnchanged("behind a fault, a success and a refusal", ELEMENT, none, none::impossible);
    }

    private static void clearMap() {
        promise(5, "Makes the map empty");
        Planner planner = mapped(TWELVE + ";b0-1:1;b10-11:2;o3:3");
        planner.setDistricts(4);
        planner.setTolerance(77);
        planner.type("u1/");
        planner.clearMap();
        int[] counts = {0, 0, 0, 0, 4, 77, 0, 0, 0, 3};
        for (int what = 0; what < counts.length; what++) {
            Check.same("count " + what, counts[what], planner.count(what));
        }
        Check.fails("unit 0", INDEX, () -> planner.unit(0, 0));
        planner.feed('1');
        Check.same("the input is there", 1, planner.extend());
        planner.extend(repeated("u1/1", 11));
        for (int u = 0; u < 12; u++) {
            Check.same("nothing is left of " + u, "-1 0 0 0", of(planner, u, 2) + " " + of(planner, u, 3) + " "
                    + of(planner, u, 4) + " " + of(planner, u, 5));
        }
        Check.same("no border is left", 0, planner.count(1));
        Check.same("no border is left", 0, planner.border(10, 11));
        promise(5, "Returns the number of units that it had");
        Planner sizes = empty();
        Check.same("none", 0, sizes.clearMap());
        Check.same("none again", 0, sizes.clearMap());
        sizes.extend("u1/1");
        Check.same("one", 1, sizes.clearMap());
        sizes.extend(TWELVE);
        Check.same("twelve", 12, sizes.clearMap());
        Check.same("none", 0, sizes.clearMap());
    }

    private static void unit() {
        unitProperties();
        unitNeighbors();
        unitInPlan();
        promise(6, "Throws `IndexOutOfBoundsException` if there is no such unit");
        Planner planner = ring("AABB");
        for (int unit : new int[] {LEAST, -1, 4, 5, 12, 32, GREATEST}) {
            failsUnchanged("unit " + unit, INDEX, planner, () -> planner.unit(unit, 0));
            failsUnchanged("unit " + unit + " and no such property", INDEX, planner, () -> planner.unit(unit, 8));
        }
        Check.same("the first", 5, of(planner, 0, 0));
        Check.same("the last", 5, of(planner, 3, 0));
        Check.fails("an empty map", INDEX, () -> empty().unit(0, 0));
        Planner twelve = mapped(TWELVE);
        Check.same("the twelfth", 12, of(twelve, 11, 0));
        Check.fails("the thirteenth", INDEX, () -> twelve.unit(12, 0));
        promise(6, "Throws `IllegalArgumentException` if what is not valid");
        for (int what : new int[] {LEAST, -1, 8, 9, 32, 256, GREATEST}) {
            failsUnchanged("what " + what, ARGUMENT, planner, () -> planner.unit(0, what));
        }
        Check.same("what 0", 5, of(planner, 1, 0));
        Check.same("what 7", 1, of(planner, 1, 7));
    }

    private static void unitProperties() {
        Planner planner = mapped("u1/99@3!;u99/1@0;u50/60;o0:9;o2:1");
        promise(6, "`what`: 0 the population");
        properties(planner, 0, 1, 99, 50);
        promise(6, "1 the area");
        properties(planner, 1, 99, 1, 60);
        promise(6, "2 the community, -1 without one");
        properties(planner, 2, 3, 0, -1);
        promise(6, "3 whether it is a core unit (1 or 0)");
        properties(planner, 3, 1, 0, 0);
        Planner cores = mapped(repeated("u1/1@2!", 10) + ";u1/1@2;u1/1@2!");
        for (int u = 0; u < 12; u++) {
            Check.same("core " + u, u == 10 ? 0 : 1, of(cores, u, 3));
        }
        promise(6, "4 the outer length");
        properties(planner, 4, 9, 0, 1);
    }

    private static void properties(Planner planner, int what, int... due) {
        for (int u = 0; u < due.length; u++) {
            int unit = u;
            sameUnchanged("unit " + u + " " + what, due[u], planner, () -> planner.unit(unit, what));
        }
    }

    private static void unitNeighbors() {
        promise(6, "5 the set of its neighbors, bit u for unit u");
        StringBuilder star = new StringBuilder();
        for (int u = 0; u < 11; u++) {
            star.append(";b11-" + u + ":" + (u % 9 + 1));
        }
        Planner planner = mapped(TWELVE + star);
        Check.same("all others", (1 << 11) - 1, of(planner, 11, 5));
        for (int u = 0; u < 11; u++) {
            Check.same("only 11", 1 << 11, of(planner, u, 5));
        }
        properties(mapped(units(3)), 5, 0, 0, 0);
        properties(mapped(PATH6), 5, 2, 5, 10, 20, 40, 16);
    }

    private static void unitInPlan() {
        promise(6, "6 its district in the present plan, -1 without one");
        Planner planner = mapped(units(4));
        planner.setDistricts(4);
        properties(planner, 6, -1, -1, -1, -1);
        planner.read("BDAC");
        properties(planner, 6, 1, 3, 0, 2);
        planner.setTolerance(10);
        properties(planner, 6, -1, -1, -1, -1);
        promise(6, "7 whether it has a neighbor in another district of the present plan (1 or 0; 0 without a plan)");
        Planner path = mapped(PATH6);
        properties(path, 7, 0, 0, 0, 0, 0, 0);
        path.read("AAABBB");
        properties(path, 7, 0, 0, 1, 1, 0, 0);
        path.setDistricts(3);
        properties(path, 7, 0, 0, 0, 0, 0, 0);
        path.read("BBAACC");
        properties(path, 7, 0, 1, 1, 1, 1, 0);
        properties(planned(units(2), 2, 10, "AB"), 7, 0, 0);
        properties(ring("AAAB"), 7, 0, 1, 1, 1);
    }

    private static void border() {
        promise(7, "Returns the length, 0 if they have none");
        Planner planner = ring("AABB");
        int[][] due = {{0, 2, 1, 0}, {2, 0, 0, 3}, {1, 0, 0, 2}, {0, 3, 2, 0}};
        for (int u = 0; u < 4; u++) {
            for (int v = 0; v < 4; v++) {
                int unit = u;
                int other = v;
                sameUnchanged("border " + u + " " + v, due[u][v], planner, () -> planner.border(unit, other));
            }
        }
        Planner away = mapped(units(2) + ";b0-1:9;b0-1:0");
        Check.same("taken away", 0, away.border(1, 0));
        promise(7, "Throws `IndexOutOfBoundsException` if one of the units does not exist");
        for (int unit : new int[] {LEAST, -1, 4, 5, 12, 32, GREATEST}) {
            failsUnchanged("border " + unit + " 0", INDEX, planner, () -> planner.border(unit, 0));
            failsUnchanged("border 3 " + unit, INDEX, planner, () -> planner.border(3, unit));
            failsUnchanged("border " + unit + " twice", INDEX, planner, () -> planner.border(unit, unit));
        }
        Check.fails("an empty map", INDEX, () -> empty().border(0, 0));
        Check.same("one unit", 0, mapped("u1/1").border(0, 0));
    }

    private static void counts(Planner planner, int what, int due) {
        sameUnchanged("count " + what, due, planner, () -> planner.count(what));
    }

    private static void count() {
        Planner none = empty();
        Planner most = mapped(repeated("u99/99@3", 7) + ";" + repeated("u99/99@0", 5));
        promise(8, "`what`: 0 the units");
        counts(none, 0, 0);
        counts(mapped("u1/1"), 0, 1);
        counts(most, 0, 12);
        promise(8, "1 the borders");
        counts(none, 1, 0);
        counts(most, 1, 0);
        counts(mapped("u1/1;u1/1;b0-1:9"), 1, 1);
        counts(complete(units(8)), 1, 28);
        counts(mapped(PATH6 + ";b2-3:0"), 1, 4);
        promise(8, "2 the population of the map");
        counts(none, 2, 0);
        counts(mapped("u1/50;u2/60"), 2, 3);
        counts(most, 2, 12 * 99);
        promise(8, "3 its area");
        counts(none, 3, 0);
        counts(mapped("u1/50;u2/60"), 3, 110);
        counts(most, 3, 12 * 99);
        promise(8, "8 the communities that have units");
        counts(none, 8, 0);
        counts(mapped(units(3)), 8, 0);
        counts(mapped("u1/1@3"), 8, 1);
        counts(mapped("u1/1@0;u1/1"), 8, 1);
        counts(most, 8, 2);
        counts(mapped("u1/1@0;u1/1@1!;u1/1@2;u1/1@3;u1/1@3"), 8, 4);
        countSettings();
        countParts();
        promise(8, "Throws `IllegalArgumentException` if what is not valid");
        Planner ring = ring("AABB");
        for (int what : NO_SUCH_WHAT) {
            failsUnchanged("count " + what, ARGUMENT, ring, () -> ring.count(what));
            Check.fails("count " + what + " of a new object", ARGUMENT, () -> empty().count(what));
        }
        Check.same("count 0", 4, ring.count(0));
        Check.same("count 9", 0, ring.count(9));
    }

    private static void countSettings() {
        Planner planner = empty();
        promise(8, "4 the number of districts");
        counts(planner, 4, 2);
        planner.setDistricts(4);
        counts(planner, 4, 4);
        promise(8, "5 the tolerance");
        counts(planner, 5, 10);
        planner.setTolerance(0);
        counts(planner, 5, 0);
        planner.setTolerance(99);
        counts(planner, 5, 99);
        promise(8, "6 whether there is a present plan (1 or 0)");
        counts(planner, 6, 0);
        Planner ring = ring("AABB");
        counts(ring, 6, 1);
        ring.clearMap();
        counts(ring, 6, 0);
        promise(8, "9 the length of the input");
        counts(planner, 9, 0);
        planner.feed('x');
        counts(planner, 9, 1);
        planner.type("x".repeat(78));
        counts(planner, 9, 79);
        planner.feed('x');
        counts(planner, 9, 80);
        Check.fails("feed", STATE, () -> planner.feed('x'));
        counts(planner, 9, 80);
        planner.extend();
        counts(planner, 9, 0);
    }

    private static void countParts() {
        promise(8, "7 the parts of the map that are not connected with each other, 0 without units");
        counts(empty(), 7, 0);
        counts(mapped("u1/1"), 7, 1);
        counts(mapped(units(2)), 7, 2);
        counts(mapped(units(12)), 7, 12);
        counts(mapped(PATH6), 7, 1);
        counts(mapped(PATH6 + ";b0-1:0"), 7, 2);
        counts(mapped(PATH6 + ";b2-3:0;b0-5:1"), 7, 1);
        counts(mapped(units(4) + ";b0-3:1;b1-2:1"), 7, 2);
        // A way through all units whose numbers fall and rise.
        counts(mapped(units(12) + ";b0-11:1;b11-1:1;b1-10:1;b10-2:1;b2-9:1;b9-3:1;b3-8:1;b8-4:1;b4-7:1;b7-5:1;b5-6:1"),
                7, 1);
        counts(mapped(units(12) + ";b11-10:1;b10-9:1;b9-8:1;b8-7:1;b7-6:1;b6-5:1;b5-4:1;b4-3:1;b3-2:1;b2-1:1;b1-0:1"),
                7, 1);
        Planner cleared = mapped(PATH6);
        cleared.clearMap();
        counts(cleared, 7, 0);
    }
}
