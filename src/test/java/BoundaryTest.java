import java.io.IOException;
import java.util.Arrays;
import java.util.HashSet;
import java.util.Set;

/** A test for each clause of the document that names a boundary case; no clause is left out. */
public final class BoundaryTest {
    /** Clauses that name no boundary case: what they say is what the other tests are about. */
    private static final String[] WITHOUT_BOUNDARY = {
        "What it is | A planner of districts: maps of units with borders that are read from texts, plans whose districts "
            + "are contiguous, balanced and keep the cores of communities together, moves and swaps that are refused "
            + "with reasons, measures as exact fractions, improvement step by step, all plans of small maps in two "
            + "ways, rows of numbers, undo and snapshots",
        "What it is | what later calls answer is free",
        "Description | A text that extends the map is a list of statements",
        "Description | The grammar is, with terminals in quotes:",
        "Description | the detail is given behind it:",
        "Description | Changes of plans",
        "Description | There are four measures of a plan, which are fractions:",
        "Description | All plans",
        "Description | The constructor and the methods follow, a promise each: the signature, then what it does",
        "Promise 2 | `character`: the character",
        "Promise 6 | Returns a property of a unit",
        "Promise 6 | `unit`: the unit",
        "Promise 6 | Returns the property",
        "Promise 7 | Returns the length of the border of two units",
        "Promise 7 | `unit`: a unit",
        "Promise 7 | `other`: a unit",
        "Promise 8 | Returns a count",
        "Promise 8 | Returns the count",
        "Promise 9 | Sets the number of districts",
        "Promise 10 | Sets the tolerance",
        "Promise 12 | Moves a unit",
        "Promise 12 | `unit`: the unit",
        "Promise 12 | `district`: the district to which it is given",
        "Promise 13 | Swaps two units",
        "Promise 13 | `unit`: a unit",
        "Promise 13 | `other`: a unit",
        "Promise 14 | Returns why a move is refused",
        "Promise 14 | `unit`: the unit",
        "Promise 14 | `district`: the district",
        "Promise 15 | Returns the reason or the detail",
        "Promise 16 | Returns a property of a district of the present plan",
        "Promise 16 | `district`: the district",
        "Promise 16 | Returns the property",
        "Promise 17 | Returns a measure of the present plan",
        "Promise 17 | `measure`: the measure",
        "Promise 17 | Returns the numerator or the denominator",
        "Promise 18 | Returns the mean",
        "Promise 19 | `measure`: the measure",
        "Promise 20 | `isSwaps`: false for moves, true for swaps",
        "Promise 20 | Returns the number",
        "Promise 21 | Returns the number",
        "Promise 22 | Returns the number",
        "Promise 23 | `plan`: the number of the plan",
        "Promise 23 | `unit`: the unit",
        "Promise 23 | Returns the district",
        "Promise 24 | `measure`: the measure",
        "Promise 24 | Returns the number of the plan",
        "Promise 25 | `plan`: the number of the plan",
        "Promise 26 | `row`: the row",
        "Promise 27 | `from`: the row from which they are copied",
        "Promise 27 | `to`: the row to which they are copied",
        "Promise 27 | `count`: the number of elements",
        "Promise 28 | `row`: the row",
        "Promise 28 | `i`: the number of the element",
        "Promise 28 | Returns the bits",
        "Promise 32 | `unit`: the unit",
        "Promise 32 | Returns the letter",
    };

    private BoundaryTest() {
    }

    public static void main(String[] args) throws IOException {
        Document document = new Document();
        Bench.testsOf(document);
        MapBoundaries.run();
        PlanBoundaries.run();
        MeasureBoundaries.run();
        AllPlansBoundaries.run();
        RowBoundaries.run();
        UndoBoundaries.run();
        Check.about("The document");
        Set<String> plain = new HashSet<>(Arrays.asList(WITHOUT_BOUNDARY));
        for (String clause : document.unquoted()) {
            Check.same("'" + clause + "' has a test or names no boundary", true, plain.remove(clause));
        }
        if (document.isThere()) {
            Check.same("clauses that the document does not have, or that have a test", Set.of(), plain);
        }
        Check.end("BoundaryTest");
    }
}
