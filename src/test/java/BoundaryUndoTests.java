import java.math.BigInteger;
import java.util.ArrayList;
import java.util.List;

/** The boundary cases that the document names of undo and of errors, and of promises 25 to 27. */
final class BoundaryUndoTests {
    private static final int NONE = -10001, INVALID = -10002, REJECTED = -10003, FULL = -10004;
    private static final int FRESH = 0, STALE = 1;
    private static final int ADD = 0, MULTIPLY = 2, DIVIDE = 3, MAXIMUM = 4;
    private static final int MIN = Integer.MIN_VALUE, MAX = Integer.MAX_VALUE;
    private static final Checks checks = new Checks("BoundaryUndoTests");

    public static void main(String[] args) {
        savedWhenItSucceeds();
        savedAlsoIfItChangesNothing();
        notSavedWhenItFails();
        queriesAreNotSaved();
        savedStateIsTheOneBefore();
        wholeStateIsSaved();
        latestFourAreKept();
        olderOnesAreDropped();
        dropsThroughoutTheLongestRun();
        errorCountersAreNotSaved();
        failedCallChangesNothingElse();
        failedQueriesChangeNothingElse();
        invalidBeforeFull();
        twoWrongArgumentsAreOneError();
        noneOnlyIfNoErrorApplies();
        undoAnswer();
        undoOfTheEmptyStack();
        undoTakesTheStateOffTheStack();
        errorCountKind();
        errorCountAnswer();
        errorCountCountsItself();
        digestStart();
        digestOfTheEmptyNotebook();
        digestOfFullNotebooks();
        digestOfEachState();
        digestWraps();
        checks.finish();
    }

    // ---- Terms, UNDO

    /** Notebooks of three saved states, so that the next one is saved without dropping any. */
    private static final Notebooks.Recipe[] WITH_ROOM = {
        () -> withRoom(Notebooks.busy()), () -> withRoom(Notebooks.eager()), () -> withRoom(Notebooks.full()),
        () -> Notebooks.chain(3)};

    private static ReactiveNotebook withRoom(ReactiveNotebook x) {
        x.undo();
        return x;
    }

    private static void allUndone(String what, Twins.Call call) {
        for (int i = 0; i < WITH_ROOM.length; i++) {
            undone(what + " on notebook " + i, WITH_ROOM[i], call);
        }
    }

    /** The call succeeds, and one undo() makes of its notebook what it was, also for the calls that follow. */
    private static void undone(String what, Notebooks.Recipe recipe, Twins.Call call) {
        ReactiveNotebook x = recipe.make();
        long before = x.digest();
        checks.holds(what + " succeeds", call.on(x) >= 0);
        checks.holds(what + " shows in the digest, if only by the saved state", x.digest() != before);
        x.undo();
        checks.due(what + ": digest() after undo()", x.digest(), before);
        Twins.alike(checks, what, () -> {
            ReactiveNotebook y = recipe.make();
            call.on(y);
            y.undo();
            return y;
        }, recipe);
    }

    private static final String SAVES =
        "saves the whole state of the notebook (cells, results, versions, mode, the execution counts and the list"
        + " of the last run)"
        + " on an undo stack when it succeeds";

    private static void savedWhenItSucceeds() {
        checks.sentence("UNDO", SAVES);
        undone("addCell of the first", ReactiveNotebook::new, x -> x.addCell(0, ADD, 1, 1));
        allUndone("editCell of the first", x -> x.editCell(0, 7, ADD, 9, 9));
        allUndone("editCell of the last", x -> x.editCell(x.cellCount() - 1, 0, MULTIPLY, 100, 109));
        allUndone("deleteCell of the first", x -> x.deleteCell(0));
        allUndone("deleteCell of the last", x -> x.deleteCell(x.cellCount() - 1));
        allUndone("moveCell from the first to the last", x -> x.moveCell(0, x.cellCount() - 1));
        allUndone("moveCell from the last to the first", x -> x.moveCell(x.cellCount() - 1, 0));
        allUndone("setEager(1)", x -> x.setEager(1));
        allUndone("setEager(0)", x -> x.setEager(0));
        allUndone("runStale()", x -> x.runStale());
        allUndone("runCell of the last in the run order", x -> x.runCell(x.runOrder(x.runnableCount() - 1)));
        for (int i = 0; i < WITH_ROOM.length; i++) {
            Notebooks.Recipe recipe = WITH_ROOM[i];
            if (recipe.make().cellCount() < 12) {
                undone("addCell on notebook " + i, recipe, x -> x.addCell(9, ADD, 1, 1));
            }
        }
        undone("addCell of the twelfth", () -> withRoom(Notebooks.rivals(12)), x -> x.addCell(9, ADD, 1, 1));
    }

    private static void savedAlsoIfItChangesNothing() {
        checks.sentence("UNDO", "when it succeeds, also if it changes nothing.");
        Notebooks.Recipe empty = ReactiveNotebook::new;
        undone("runStale() of an empty notebook", empty, x -> x.runStale());
        undone("setEager(0)", empty, x -> x.setEager(0));
        undone("editCell to the same definition, without a result", () -> Notebooks.rivals(1), x -> x.editCell(0, 0, ADD, 0, 1));
        undone("moveCell(0, 0)", () -> Notebooks.rivals(2), x -> x.moveCell(0, 0));
        undone("moveCell(1, 1)", () -> Notebooks.rivals(2), x -> x.moveCell(1, 1));
        undone("runStale() of MULTIPLE cells", () -> Notebooks.rivals(2), x -> x.runStale());
        Notebooks.Recipe fresh = () -> {
            ReactiveNotebook x = Notebooks.rivals(1);
            x.runStale();
            x.runStale();
            return x;
        };
        undone("runStale() of fresh cells", fresh, x -> x.runStale());
        undone("runCell of a fresh cell", fresh, x -> x.runCell(0));
        undone("setEager(1) in eager mode", () -> {
            ReactiveNotebook x = new ReactiveNotebook();
            x.setEager(1);
            return x;
        }, x -> x.setEager(1));
        ReactiveNotebook x = new ReactiveNotebook();
        x.runStale();
        x.setEager(0);
        x.runStale();
        checks.due("each takes a place on the stack", x.undo(), 2);
    }

    private static void notSavedWhenItFails() {
        checks.sentence("UNDO", "on an undo stack when it succeeds");
        ReactiveNotebook x = Notebooks.rivals(12);
        x.undo();
        x.undo();
        x.undo();
        x.addCell(0, ADD, 1, 1);
        x.addCell(0, ADD, 1, 1);
        x.addCell(0, ADD, 1, 1);
        x.addCell(0, ADD, 1, 1);
        x.addCell(12, ADD, 1, 1);
        x.editCell(12, 0, ADD, 1, 1);
        x.deleteCell(12);
        x.moveCell(0, 12);
        x.setEager(2);
        x.runCell(12);
        x.runCell(0);
        for (int left = 3; left >= 0; left--) {
            checks.due("only the successful ones are undone", x.undo(), left);
            checks.due("cellCount()", x.cellCount(), left == 3 ? 11 : left == 2 ? 10 : left == 1 ? 9 : 8);
        }
        checks.due("the stack is empty", x.undo(), REJECTED);
    }

    private static void queriesAreNotSaved() {
        checks.sentence("UNDO", "Every method that is marked \"undoable\"");
        ReactiveNotebook x = Notebooks.busy();
        String answers = Twins.answers(x);
        long before = x.digest();
        checks.same("answers asked for twice", Twins.answers(x), answers);
        checks.due("digest() afterwards", x.digest(), before);
        checks.due("undo() finds the four saved states", x.undo(), 3);
    }

    private static void savedStateIsTheOneBefore() {
        checks.sentence("UNDO", "The saved state is the one from before the call.");
        ReactiveNotebook x = new ReactiveNotebook();
        x.addCell(0, ADD, 1, 1);
        x.undo();
        checks.due("before the first cell", x.cellCount(), 0);
        x.addCell(0, ADD, 1, 1);
        x.runStale();
        x.editCell(0, 0, ADD, 2, 2);
        x.undo();
        checks.due("before the edit", x.value(0), 2);
        x.undo();
        checks.due("before the run", x.status(0), STALE);
        ReactiveNotebook y = Notebooks.rivals(1);
        y.setEager(1);
        y.undo();
        checks.due("before the running with which setEager(1) ended", y.totalRuns(), 0);
        checks.due("and before the mode", y.setEager(0), 0);
    }

    private static void wholeStateIsSaved() {
        checks.sentence("UNDO", SAVES);
        ReactiveNotebook x = new ReactiveNotebook();
        x.addCell(0, ADD, 1, 2);
        x.addCell(1, MAXIMUM, 100, 9);
        x.setEager(1);
        x.editCell(0, 0, ADD, 5, 5);
        checks.due("version(0) now", x.version(0), 3);
        x.undo();
        checks.due("cells: definers(0)", x.definers(0), 1);
        checks.due("results: value(0)", x.value(0), 3);
        checks.due("results: value(1)", x.value(1), 9);
        checks.due("versions: version(0)", x.version(0), 1);
        checks.due("versions: version(1)", x.version(1), 2);
        checks.due("versions that were recorded: status(1)", x.status(1), FRESH);
        checks.due("the execution counts: runs(0)", x.runs(0), 1);
        checks.due("the execution counts: totalRuns()", x.totalRuns(), 2);
        checks.due("the list of the last run: lastRunCount()", x.lastRunCount(), 2);
        checks.due("the list of the last run: lastRun(1)", x.lastRun(1), 1);
        x.addCell(2, ADD, 1, 1);
        checks.due("mode: the new cell is run", x.value(2), 2);
        checks.due("versions: the greatest", x.version(2), 3);
        x.undo();
        x.undo();
        checks.due("mode: not eager before", x.setEager(0), 0);
    }

    private static void latestFourAreKept() {
        checks.sentence("UNDO", "The stack keeps the latest 4 saved states and drops older ones.");
        for (int calls = 1; calls <= 6; calls++) {
            ReactiveNotebook x = Notebooks.rivals(calls);
            int kept = Math.min(calls, 4);
            for (int left = kept - 1; left >= 0; left--) {
                checks.due("after " + calls + " calls: undo()", x.undo(), left);
                checks.due("after " + calls + " calls: cellCount()", x.cellCount(), calls - kept + left);
            }
            checks.due("after " + calls + " calls: no more", x.undo(), REJECTED);
            checks.due("after " + calls + " calls: what is left", x.cellCount(), calls - kept);
        }
    }

    private static void olderOnesAreDropped() {
        checks.sentence("UNDO", "The stack keeps the latest 4 saved states and drops older ones.");
        ReactiveNotebook x = Notebooks.rivals(5);
        checks.due("one is taken", x.undo(), 3);
        x.addCell(0, ADD, 1, 1);
        checks.due("and one is saved: four again, none is dropped", x.undo(), 3);
        x.addCell(0, ADD, 1, 1);
        x.addCell(0, ADD, 1, 1);
        checks.due("a fifth drops the oldest", x.undo(), 3);
        x.undo();
        x.undo();
        checks.due("the last that is left", x.undo(), 0);
        checks.due("is the one before the third cell", x.cellCount(), 2);
        checks.due("no more", x.undo(), REJECTED);
    }

    private static void dropsThroughoutTheLongestRun() {
        checks.sentence("UNDO", "The stack keeps the latest 4 saved states and drops older ones.");
        ReactiveNotebook x = Notebooks.rivals(1);
        for (int i = 1; i <= 500; i++) {
            x.editCell(0, i % 10, ADD, i % 100, 0);
        }
        for (int left = 3; left >= 0; left--) {
            checks.due("undo() after 501 calls", x.undo(), left);
            checks.due("variable(0)", x.variable(0), (496 + left) % 10);
        }
        checks.due("no more", x.undo(), REJECTED);
    }

    private static void errorCountersAreNotSaved() {
        checks.sentence("UNDO", "The error counters are not saved.");
        ReactiveNotebook x = Notebooks.rivals(12);
        x.deleteCell(12);
        x.runCell(0);
        x.addCell(0, ADD, 1, 1);
        checks.due("undo()", x.undo(), 3);
        checks.due("undo()", x.undo(), 2);
        checks.due("errorCount(0)", x.errorCount(0), 1);
        checks.due("errorCount(1)", x.errorCount(1), 1);
        checks.due("errorCount(2)", x.errorCount(2), 1);
    }

    // ---- Terms, ERRORS

    private static final String FAILS =
        "A method that fails returns an error code and changes nothing except the counter of that error, which grows by 1.";

    private static void failedCallChangesNothingElse() {
        checks.sentence("ERRORS", FAILS);
        Twins.refused(checks, "addCell", x -> x.addCell(10, ADD, 1, 1), INVALID);
        Twins.refused(checks, "editCell", x -> x.editCell(0, 10, ADD, 1, 1), INVALID);
        Twins.refused(checks, "deleteCell", x -> x.deleteCell(-1), INVALID);
        Twins.refused(checks, "moveCell", x -> x.moveCell(0, -1), INVALID);
        Twins.refused(checks, "setEager", x -> x.setEager(2), INVALID);
        Twins.refused(checks, "runCell", x -> x.runCell(-1), INVALID);
        Twins.refusedBy(checks, "runCell", Notebooks::full, x -> x.runCell(9), REJECTED);
        Twins.refusedBy(checks, "addCell", Notebooks::full, x -> x.addCell(0, ADD, 1, 1), FULL);
        Notebooks.Recipe nothingToUndo = () -> {
            ReactiveNotebook x = Notebooks.full();
            for (int i = 0; i < 4; i++) {
                x.undo();
            }
            return x;
        };
        Twins.refusedBy(checks, "undo", nothingToUndo, x -> x.undo(), REJECTED);
    }

    private static void failedQueriesChangeNothingElse() {
        checks.sentence("ERRORS", FAILS);
        Twins.Call[] queries = {
            x -> x.lastRun(-1), x -> x.variable(-1), x -> x.status(-1), x -> x.value(-1), x -> x.valueOf(-1),
            x -> x.version(-1), x -> x.runs(-1), x -> x.dependencies(-1), x -> x.dependents(-1), x -> x.definers(-1),
            x -> x.runOrder(-1), x -> x.errorCount(-1)};
        for (int i = 0; i < queries.length; i++) {
            Twins.refused(checks, "query " + i, queries[i], INVALID);
        }
    }

    private static void invalidBeforeFull() {
        checks.sentence("ERRORS", "If two errors apply, INVALID is returned before REJECTED, and REJECTED before FULL.");
        int[][] wrong = {
            {-1, 0, 0, 0}, {10, 0, 0, 0}, {0, -1, 0, 0}, {0, 6, 0, 0},
            {0, 0, -1, 0}, {0, 0, 110, 0}, {0, 0, 0, -1}, {0, 0, 0, 110}};
        for (int[] w : wrong) {
            Twins.refusedBy(checks, "INVALID and FULL", Notebooks::full, x -> x.addCell(w[0], w[1], w[2], w[3]), INVALID);
        }
        Notebooks.Recipe rejecting = () -> Notebooks.rivals(12);
        Twins.refusedBy(checks, "INVALID where every cell is REJECTED", rejecting, x -> x.runCell(12), INVALID);
        Twins.refusedBy(checks, "REJECTED in a full notebook", rejecting, x -> x.runCell(11), REJECTED);
    }

    private static void twoWrongArgumentsAreOneError() {
        checks.sentence("ERRORS", "the counter of that error, which grows by 1.");
        Twins.refused(checks, "addCell with four wrong arguments", x -> x.addCell(10, 6, 110, 110), INVALID);
        Twins.refused(checks, "editCell with five wrong arguments", x -> x.editCell(-1, -1, -1, -1, -1), INVALID);
        Twins.refused(checks, "moveCell with two wrong arguments", x -> x.moveCell(-1, 12), INVALID);
    }

    private static void noneOnlyIfNoErrorApplies() {
        checks.sentence("ERRORS", "NONE is returned only if no error applies.");
        ReactiveNotebook x = new ReactiveNotebook();
        checks.due("lastRun(-1) of an empty list", x.lastRun(-1), INVALID);
        checks.due("runOrder(-1) of an empty list", x.runOrder(-1), INVALID);
        checks.due("valueOf(10), which no cell defines", x.valueOf(10), INVALID);
        checks.due("valueOf(-1), which no cell defines", x.valueOf(-1), INVALID);
        checks.due("value(0) of no cell", x.value(0), INVALID);
        checks.due("five errors", x.errorCount(0), 5);
        checks.due("lastRun(0)", x.lastRun(0), NONE);
        checks.due("runOrder(0)", x.runOrder(0), NONE);
        checks.due("valueOf(9)", x.valueOf(9), NONE);
        x.addCell(0, ADD, 1, 1);
        checks.due("value(0)", x.value(0), NONE);
        checks.due("NONE counts nothing", x.errorCount(0), 5);
        checks.due("NONE counts nothing", x.errorCount(1) + x.errorCount(2), 0);
    }

    // ---- Promise 25

    private static void undoAnswer() {
        checks.sentence("Promise 25", "Returns the number of states that are left on the stack");
        ReactiveNotebook x = Notebooks.rivals(4);
        checks.due("three are left", x.undo(), 3);
        checks.due("two are left", x.undo(), 2);
        checks.due("one is left", x.undo(), 1);
        checks.due("none is left", x.undo(), 0);
        x.addCell(0, ADD, 1, 1);
        checks.due("the only one", x.undo(), 0);
    }

    private static void undoOfTheEmptyStack() {
        checks.sentence("Promise 25", "REJECTED if the stack is empty.");
        Twins.refusedBy(checks, "a new object", ReactiveNotebook::new, x -> x.undo(), REJECTED);
        Twins.refusedBy(checks, "after as many undo() as calls", () -> {
            ReactiveNotebook x = Notebooks.rivals(2);
            x.undo();
            x.undo();
            return x;
        }, x -> x.undo(), REJECTED);
        Twins.refusedBy(checks, "with cells left", () -> {
            ReactiveNotebook x = Notebooks.eager();
            for (int i = 0; i < 4; i++) {
                x.undo();
            }
            return x;
        }, x -> x.undo(), REJECTED);
        Twins.refusedBy(checks, "with a last run and stale cells", () -> {
            ReactiveNotebook x = Notebooks.chain(5);
            x.runCell(2);
            for (int i = 0; i < 4; i++) {
                x.moveCell(0, 0);
            }
            for (int i = 0; i < 4; i++) {
                x.undo();
            }
            return x;
        }, x -> x.undo(), REJECTED);
        ReactiveNotebook x = new ReactiveNotebook();
        x.deleteCell(0);
        checks.due("a refused call leaves it empty", x.undo(), REJECTED);
    }

    private static void undoTakesTheStateOffTheStack() {
        checks.sentence("Promise 25", "Restores the latest saved state and removes it from the undo stack.");
        ReactiveNotebook x = Notebooks.rivals(3);
        x.undo();
        checks.due("the latest first", x.cellCount(), 2);
        x.undo();
        checks.due("then the one before", x.cellCount(), 1);
        x.addCell(7, ADD, 1, 1);
        checks.due("a new one on top", x.undo(), 1);
        checks.due("which was the latest", x.cellCount(), 1);
        checks.due("variable(0)", x.variable(0), 0);
        x.undo();
        checks.due("the first", x.cellCount(), 0);
    }

    // ---- Promise 26

    private static void errorCountKind() {
        checks.sentence("Promise 26", "kind: 0 for INVALID, 1 for REJECTED, 2 for FULL");
        ReactiveNotebook x = Notebooks.rivals(12);
        x.deleteCell(12);
        x.runCell(0);
        x.runCell(1);
        x.addCell(0, ADD, 1, 1);
        x.addCell(0, ADD, 1, 1);
        x.addCell(0, ADD, 1, 1);
        checks.due("the least", x.errorCount(0), 1);
        checks.due("1", x.errorCount(1), 2);
        checks.due("the greatest", x.errorCount(2), 3);
    }

    private static void errorCountAnswer() {
        checks.sentence("Promise 26", "Returns the number of failed calls of that kind");
        ReactiveNotebook x = new ReactiveNotebook();
        for (int failed = 0; failed < 100; failed++) {
            checks.due("errorCount(0)", x.errorCount(0), failed);
            checks.due("errorCount(1)", x.errorCount(1), failed);
            x.deleteCell(0);
            x.undo();
        }
        checks.due("errorCount(2)", x.errorCount(2), 0);
    }

    private static void errorCountCountsItself() {
        checks.sentence("Promise 26", "INVALID (which is counted, too) if kind is out of range.");
        for (int wrong : new int[] {-1, 3, MIN, MAX}) {
            Twins.refused(checks, "errorCount(" + wrong + ")", x -> x.errorCount(wrong), INVALID);
        }
        ReactiveNotebook x = new ReactiveNotebook();
        x.errorCount(3);
        x.errorCount(-1);
        checks.due("two were counted", x.errorCount(0), 2);
    }

    // ---- Promise 27

    /**
     * The digest by the document's words, from what the other calls answer, in numbers that have no bound. What no
     * call tells is given: the saved states, the mode, and each cell's operator and operands.
     */
    private static BigInteger unboundedDigest(ReactiveNotebook x, int states, int mode, int[]... expressions) {
        List<Integer> values = new ArrayList<>(List.of(x.errorCount(0), x.errorCount(1), x.errorCount(2), states, mode));
        values.addAll(List.of(x.totalRuns(), x.lastRunCount()));
        for (int i = 0; i < x.lastRunCount(); i++) {
            values.add(x.lastRun(i));
        }
        values.add(x.cellCount());
        for (int cell = 0; cell < x.cellCount(); cell++) {
            values.addAll(List.of(x.variable(cell), expressions[cell][0], expressions[cell][1], expressions[cell][2]));
            values.addAll(List.of(x.status(cell), x.value(cell), x.version(cell), x.runs(cell)));
            values.addAll(List.of(x.dependencies(cell), x.dependents(cell)));
        }
        values.add(x.runnableCount());
        for (int i = 0; i < x.runnableCount(); i++) {
            values.add(x.runOrder(i));
        }
        BigInteger h = BigInteger.valueOf(11872);
        for (int v : values) {
            h = h.multiply(BigInteger.valueOf(31)).add(BigInteger.valueOf(v));
        }
        return h;
    }

    private static void digestIs(String what, ReactiveNotebook x, int states, int mode, int[]... expressions) {
        checks.due(what, x.digest(), unboundedDigest(x, states, mode, expressions).longValue());
    }

    private static final String STARTS =
        "It starts with h = 11872. For each of the following values v, in this order, h becomes 31 * h + v";

    private static void digestStart() {
        checks.sentence("Promise 27", STARTS);
        digestIs("a new object", new ReactiveNotebook(), 0, 0);
        long start = 11872;
        for (int i = 0; i < 9; i++) {
            start *= 31;
        }
        checks.due("nine times 0", new ReactiveNotebook().digest(), start);
    }

    private static void digestOfTheEmptyNotebook() {
        checks.sentence("Promise 27", "errorCount(0) to errorCount(2), the number of states on the undo stack,"
            + " the mode (1 if eager, otherwise 0), totalRuns(), lastRunCount(), each element of the last run;");
        ReactiveNotebook x = new ReactiveNotebook();
        x.deleteCell(0);
        digestIs("an error more", x, 0, 0);
        x.setEager(1);
        digestIs("a saved state and the mode", x, 1, 1);
        x.setEager(0);
        digestIs("the mode is left again", x, 2, 0);
        x.runStale();
        x.runStale();
        digestIs("four saved states", x, 4, 0);
        x.runStale();
        digestIs("and no more", x, 4, 0);
        x.undo();
        digestIs("one less", x, 3, 0);
    }

    private static int[][] chainExpressions(int cells) {
        int[][] expressions = new int[cells][];
        for (int i = 0; i < cells; i++) {
            expressions[i] = new int[] {ADD, i == 0 ? 1 : 99 + i, 1};
        }
        return expressions;
    }

    private static void digestOfFullNotebooks() {
        checks.sentence("Promise 27", "runnableCount(), each element of the run order.");
        int[][] full = new int[12][];
        System.arraycopy(chainExpressions(9), 0, full, 0, 9);
        for (int i = 0; i < 3; i++) {
            full[9 + i] = new int[] {MAXIMUM, 108, i};
        }
        digestIs("12 cells, nine of them run", Notebooks.full(), 4, 0, full);
        int[][] rivals = new int[12][];
        for (int i = 0; i < 12; i++) {
            rivals[i] = new int[] {ADD, i, 1};
        }
        digestIs("12 cells, none runnable", Notebooks.rivals(12), 4, 0, rivals);
        ReactiveNotebook x = Notebooks.chain(10);
        x.runStale();
        digestIs("the longest last run and run order", x, 4, 0, chainExpressions(10));
    }

    private static void digestOfEachState() {
        checks.sentence("Promise 27",
            "its operator, its left operand, its right operand, status(), value(), version(), runs(), dependencies()"
            + " and dependents();");
        int[][] busy = {{ADD, 10, 1}, {ADD, 11, 1}, {ADD, 101, 1}, {ADD, 109, 1}, {ADD, 102, 1}, {MULTIPLY, 99, 99},
            {ADD, 104, 104}, {DIVIDE, 9, 0}, {ADD, 105, 106}, {ADD, 104, 1}};
        digestIs("statuses of every kind", Notebooks.busy(), 4, 0, busy);
        int[][] eager = {{ADD, 2, 1}, {ADD, 103, 100}, {ADD, 101, 100}, {ADD, 5, 1}};
        digestIs("eager mode, a last run in another order than the cells", Notebooks.eager(), 4, 1, eager);
        ReactiveNotebook x = Notebooks.computed(ADD, -9999, 0);
        checks.due("a value of -9999", x.value(Notebooks.COMPUTED), -9999);
        int[][] computed = {{MULTIPLY, 99, 99}, {ADD, 99, 99}, {ADD, 100, 101}, {1, 0, 102}, {MULTIPLY, 99, 0}, {ADD, 0, 0},
            {ADD, 104, 105}, {ADD, 0, 106}, {ADD, 103, 107}};
        digestIs("negative values", x, 4, 0, computed);
    }

    private static void digestWraps() {
        checks.sentence("Promise 27", "(long arithmetic, overflow wraps)");
        BigInteger greatest = BigInteger.valueOf(Long.MAX_VALUE);
        BigInteger small = unboundedDigest(new ReactiveNotebook(), 0, 0);
        checks.holds("nine values stay below 2^63", small.compareTo(greatest) <= 0);
        ReactiveNotebook x = Notebooks.rivals(1);
        BigInteger one = unboundedDigest(x, 1, 0, new int[] {ADD, 0, 1});
        checks.holds("those of a cell more do not", one.compareTo(greatest) > 0);
        checks.due("so they wrap", x.digest(), one.longValue());
        x.undo();
        checks.due("and without it they do not", x.digest(), small.longValue());
    }
}
