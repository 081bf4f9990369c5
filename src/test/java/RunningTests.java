/** Promises 7 to 10, and what the Terms say of running: results, versions, freshness, early cutoff. */
final class RunningTests {
    private static final int NONE = -10001, INVALID = -10002, REJECTED = -10003;
    private static final int ADD = 0, SUBTRACT = 1, MULTIPLY = 2, DIVIDE = 3, MAXIMUM = 4, MINIMUM = 5;
    private static final int FRESH = 0, STALE = 1, BAD_INPUT = 5, OVERFLOW = 6, ZERO_DIVISION = 7;
    private static final Checks checks = new Checks("RunningTests");

    public static void main(String[] args) {
        operators();
        range();
        orderOfErrors();
        runStale();
        earlyCutoff();
        versions();
        errorResultsHaveVersions();
        recordedVersionsOfAnotherDefiner();
        staleThroughStaleDefiner();
        runCell();
        runCellRefused();
        lastRun();
        checks.finish();
    }

    /** Runs OPERATOR on left and right, each from -9801 to 9801 and made of two cells, and gives the third cell. */
    private static ReactiveNotebook computed(int operator, int left, int right) {
        ReactiveNotebook x = new ReactiveNotebook();
        defineNumber(x, 0, left);
        defineNumber(x, 3, right);
        x.addCell(6, operator, 102, 105);
        x.runStale();
        return x;
    }

    /** Three cells: variable + 2 becomes 99 * (number / 99) + number % 99, as a difference when it is negative. */
    private static void defineNumber(ReactiveNotebook x, int variable, int number) {
        int size = Math.abs(number);
        x.addCell(variable, MULTIPLY, 99, size / 99);
        x.addCell(variable + 1, number < 0 ? SUBTRACT : ADD, number < 0 ? 0 : size % 99, number < 0 ? size % 99 : 0);
        x.addCell(variable + 2, number < 0 ? SUBTRACT : ADD, 101 + variable, 100 + variable);
    }

    private static void valueIs(int operator, int left, int right, int want) {
        ReactiveNotebook x = computed(operator, left, right);
        checks.due("operator " + operator + " of " + left + " and " + right, x.value(6), want);
        checks.due("its status", x.status(6), FRESH);
    }

    private static void errorIs(int operator, int left, int right, int want) {
        ReactiveNotebook x = computed(operator, left, right);
        checks.due("operator " + operator + " of " + left + " and " + right, x.status(6), want);
        checks.due("its value", x.value(6), NONE);
        checks.due("its variable's value", x.valueOf(6), NONE);
        checks.due("its version", x.version(6), 7);
    }

    private static void operators() {
        valueIs(ADD, 7, 3, 10);
        valueIs(SUBTRACT, 7, 10, -3);
        valueIs(SUBTRACT, 10, 7, 3);
        valueIs(MULTIPLY, -7, 3, -21);
        valueIs(DIVIDE, 7, 2, 3);
        valueIs(DIVIDE, -7, 2, -3);
        valueIs(DIVIDE, 7, -2, -3);
        valueIs(DIVIDE, -7, -2, 3);
        valueIs(DIVIDE, 1, 2, 0);
        valueIs(DIVIDE, -1, 2, 0);
        valueIs(DIVIDE, 0, -5, 0);
        valueIs(DIVIDE, 2, 7, 0);
        errorIs(DIVIDE, 7, 0, ZERO_DIVISION);
        errorIs(DIVIDE, 0, 0, ZERO_DIVISION);
        valueIs(MAXIMUM, -7, 3, 3);
        valueIs(MAXIMUM, 3, -7, 3);
        valueIs(MINIMUM, -7, 3, -7);
        valueIs(MINIMUM, 3, -7, -7);
        valueIs(MAXIMUM, 5, 5, 5);
        valueIs(MULTIPLY, 0, -9801, 0);
    }

    private static void range() {
        valueIs(ADD, 9801, 198, 9999);
        errorIs(ADD, 9801, 199, OVERFLOW);
        valueIs(SUBTRACT, -9801, 198, -9999);
        errorIs(SUBTRACT, -9801, 199, OVERFLOW);
        errorIs(ADD, 9801, 9801, OVERFLOW);
        valueIs(MULTIPLY, 101, 99, 9999);
        errorIs(MULTIPLY, 100, 100, OVERFLOW);
        valueIs(MULTIPLY, -101, 99, -9999);
        errorIs(MULTIPLY, -100, 100, OVERFLOW);
        errorIs(MULTIPLY, 9801, 9801, OVERFLOW);
        errorIs(MULTIPLY, -9801, 9801, OVERFLOW);
        valueIs(MULTIPLY, -101, -99, 9999);
    }

    private static void orderOfErrors() {
        ReactiveNotebook x = new ReactiveNotebook();
        x.addCell(0, DIVIDE, 1, 0);
        x.addCell(1, DIVIDE, 100, 0);
        x.addCell(2, DIVIDE, 5, 100);
        x.addCell(3, MULTIPLY, 0, 101);
        x.addCell(4, MAXIMUM, 100, 100);
        x.runStale();
        checks.due("the first error", x.status(0), ZERO_DIVISION);
        checks.due("BAD_INPUT before ZERO_DIVISION, left", x.status(1), BAD_INPUT);
        checks.due("BAD_INPUT, right", x.status(2), BAD_INPUT);
        checks.due("BAD_INPUT of BAD_INPUT", x.status(3), BAD_INPUT);
        checks.due("BAD_INPUT of both", x.status(4), BAD_INPUT);
        checks.due("they are runnable all the same", x.runnableCount(), 5);
        checks.due("and not stale", x.staleCount(), 0);
    }

    private static void runStale() {
        ReactiveNotebook x = new ReactiveNotebook();
        checks.due("7: an empty notebook", x.runStale(), 0);
        x.addCell(2, ADD, 101, 1);
        x.addCell(1, ADD, 100, 1);
        x.addCell(0, ADD, 1, 1);
        x.addCell(5, ADD, 109, 1);
        checks.due("7: runs all that are stale", x.runStale(), 3);
        checks.due("7: not one with a static error", x.runs(3), 0);
        checks.due("7: value(0)", x.value(0), 4);
        checks.due("7: nothing is left", x.runStale(), 0);
        checks.due("7: lastRunCount() of nothing", x.lastRunCount(), 0);
        checks.due("7: saved though it changed nothing", x.undo(), 3);
        x.addCell(6, ADD, 102, 102);
        checks.due("7: only the new cell", x.runStale(), 1);
        checks.due("7: lastRun(0)", x.lastRun(0), 4);
    }

    private static void earlyCutoff() {
        ReactiveNotebook x = new ReactiveNotebook();
        x.addCell(0, ADD, 1, 2);
        x.addCell(1, MAXIMUM, 100, 50);
        x.addCell(2, ADD, 101, 1);
        x.addCell(3, ADD, 100, 100);
        checks.due("cutoff: first all", x.runStale(), 4);
        x.editCell(0, 0, ADD, 3, 3);
        checks.due("cutoff: all are stale before", x.staleCount(), 4);
        checks.due("cutoff: status(2)", x.status(2), STALE);
        checks.due("cutoff: value(2) of a stale cell", x.value(2), NONE);
        checks.due("cutoff: cell 2 needs no run", x.runStale(), 3);
        checks.due("cutoff: lastRun(0)", x.lastRun(0), 0);
        checks.due("cutoff: lastRun(1)", x.lastRun(1), 1);
        checks.due("cutoff: lastRun(2)", x.lastRun(2), 3);
        checks.due("cutoff: cell 2 is fresh again", x.status(2), FRESH);
        checks.due("cutoff: value(2)", x.value(2), 51);
        checks.due("cutoff: runs(2)", x.runs(2), 1);
        checks.due("cutoff: version(1) stays", x.version(1), 2);
        checks.due("cutoff: version(3) is new", x.version(3), 6);
    }

    private static void versions() {
        ReactiveNotebook x = new ReactiveNotebook();
        x.addCell(0, ADD, 1, 2);
        x.addCell(1, ADD, 100, 0);
        x.runStale();
        checks.due("versions: the first", x.version(0), 1);
        checks.due("versions: the second", x.version(1), 2);
        x.editCell(0, 0, ADD, 2, 1);
        x.runStale();
        checks.due("versions: a new result of an edited cell", x.version(0), 3);
        checks.due("versions: an equal result", x.version(1), 2);
        checks.due("versions: which was run", x.runs(1), 2);
        x.deleteCell(0);
        x.addCell(0, ADD, 9, 9);
        x.runStale();
        checks.due("versions: go on from the greatest given, also to a deleted cell", x.version(1), 4);
        checks.due("versions: a different result", x.version(0), 5);
    }

    private static void errorResultsHaveVersions() {
        ReactiveNotebook x = new ReactiveNotebook();
        x.addCell(0, DIVIDE, 1, 0);
        x.addCell(1, ADD, 100, 0);
        x.addCell(2, ADD, 101, 0);
        x.runStale();
        checks.due("errors: version(1)", x.version(1), 2);
        x.editCell(0, 0, MULTIPLY, 99, 99);
        x.runStale();
        checks.due("errors: 9801 is in range", x.status(2), FRESH);
        checks.due("errors: a value in an error's place is different", x.version(2), 6);
        x.editCell(0, 0, DIVIDE, 5, 0);
        checks.due("errors: all three run", x.runStale(), 3);
        checks.due("errors: an error in a value's place is different", x.version(2), 9);
        x.editCell(0, 0, DIVIDE, 6, 0);
        checks.due("errors: BAD_INPUT equals BAD_INPUT", x.runStale(), 2);
        checks.due("errors: so its version stays", x.version(1), 8);
        x.editCell(1, 1, DIVIDE, 1, 0);
        checks.due("errors: ZERO_DIVISION for cell 1", x.runStale(), 2);
        checks.due("errors: cell 2 has BAD_INPUT as before", x.version(2), 9);
    }

    private static void recordedVersionsOfAnotherDefiner() {
        ReactiveNotebook x = new ReactiveNotebook();
        x.addCell(0, ADD, 1, 1);
        x.addCell(1, ADD, 100, 100);
        x.runStale();
        x.addCell(0, ADD, 1, 1);
        checks.due("two definers: results are kept", x.version(0), 1);
        checks.due("two definers: status(1)", x.status(1), BAD_INPUT);
        checks.due("two definers: nothing runs", x.runStale(), 0);
        x.deleteCell(2);
        checks.due("the old definer is alone again: fresh without a run", x.status(1), FRESH);
        checks.due("value(1)", x.value(1), 4);
        x.addCell(0, ADD, 1, 1);
        x.deleteCell(0);
        checks.due("the new definer is alone: stale", x.status(0), STALE);
        checks.due("runs both", x.runStale(), 2);
        checks.due("the equal value has another version", x.version(1), 3);
        checks.due("and the dependent keeps its own", x.version(0), 2);
    }

    private static void staleThroughStaleDefiner() {
        ReactiveNotebook x = new ReactiveNotebook();
        x.addCell(0, ADD, 1, 1);
        x.addCell(1, ADD, 100, 0);
        x.addCell(2, ADD, 101, 0);
        x.addCell(3, ADD, 4, 4);
        x.runStale();
        x.editCell(0, 0, ADD, 1, 1);
        checks.due("a cell is stale when its definer is, the recorded version or not", x.status(2), STALE);
        checks.due("staleCount()", x.staleCount(), 3);
        checks.due("an independent one is fresh", x.status(3), FRESH);
        x.runCell(0);
        checks.due("the direct dependent has an old recorded version", x.status(1), STALE);
        checks.due("the indirect one a stale definer", x.status(2), STALE);
        x.runCell(1);
        checks.due("version(1) stays, so the indirect one is fresh", x.status(2), FRESH);
        checks.due("runs(2)", x.runs(2), 1);
    }

    private static void runCell() {
        ReactiveNotebook x = new ReactiveNotebook();
        x.addCell(2, ADD, 101, 1);
        x.addCell(1, ADD, 100, 1);
        x.addCell(0, ADD, 1, 1);
        x.addCell(5, ADD, 102, 1);
        x.addCell(6, ADD, 1, 1);
        checks.due("8: with direct and indirect dependencies", x.runCell(0), 3);
        checks.due("8: lastRun(0)", x.lastRun(0), 2);
        checks.due("8: lastRun(1)", x.lastRun(1), 1);
        checks.due("8: lastRun(2)", x.lastRun(2), 0);
        checks.due("8: value(0)", x.value(0), 4);
        checks.due("8: a dependent is not run", x.status(3), STALE);
        checks.due("8: nor any other cell", x.runs(4), 0);
        checks.due("8: a fresh cell", x.runCell(0), 0);
        checks.due("8: saved though it changed nothing", x.undo(), 3);
        checks.due("8: only what is stale", x.runCell(3), 1);
        x.setEager(0);
        x.editCell(2, 0, MINIMUM, 2, 3);
        checks.due("8: the same value again: cutoff behind cell 1", x.runCell(3), 2);
        checks.due("8: value(3)", x.value(3), 5);
        x.editCell(1, 1, SUBTRACT, 9, 2);
        checks.due("8: only dependencies of the cell", x.runCell(2), 0);
        checks.due("8: status(0)", x.status(0), STALE);
    }

    private static void runCellRefused() {
        ReactiveNotebook x = new ReactiveNotebook();
        checks.due("8: no cell", x.runCell(0), INVALID);
        x.addCell(0, ADD, 1, 1);
        x.addCell(0, ADD, 1, 1);
        x.addCell(1, ADD, 101, 1);
        x.addCell(2, ADD, 109, 1);
        x.addCell(3, ADD, 102, 1);
        checks.due("8: MULTIPLE", x.runCell(0), REJECTED);
        checks.due("8: CYCLE", x.runCell(2), REJECTED);
        checks.due("8: UNDEFINED", x.runCell(3), REJECTED);
        checks.due("8: BAD_INPUT", x.runCell(4), REJECTED);
        checks.due("8: below", x.runCell(-1), INVALID);
        checks.due("8: above", x.runCell(5), INVALID);
        checks.due("8: errorCount(1)", x.errorCount(1), 4);
        checks.due("8: errorCount(0)", x.errorCount(0), 3);
        ReactiveNotebook y = new ReactiveNotebook();
        y.addCell(0, DIVIDE, 1, 0);
        y.addCell(1, ADD, 100, 1);
        checks.due("8: an error that is a result is no static error", y.runCell(1), 2);
        checks.due("8: nor is BAD_INPUT as a result", y.runCell(1), 0);
    }

    private static void lastRun() {
        ReactiveNotebook x = new ReactiveNotebook();
        checks.due("10: nothing ran", x.lastRun(0), NONE);
        checks.due("10: negative", x.lastRun(-1), INVALID);
        checks.due("10: negative", x.lastRun(Integer.MIN_VALUE), INVALID);
        checks.due("10: far above", x.lastRun(Integer.MAX_VALUE), NONE);
        checks.due("10: errorCount(0)", x.errorCount(0), 2);
        for (int i = 0; i < 10; i++) {
            x.addCell(i, ADD, i, 1);
        }
        checks.due("9: before", x.lastRunCount(), 0);
        checks.due("9: runStale()", x.runStale(), 10);
        checks.due("9: lastRunCount()", x.lastRunCount(), 10);
        checks.due("10: lastRun(9)", x.lastRun(9), 9);
        checks.due("10: lastRun(10)", x.lastRun(10), NONE);
        checks.due("10: lastRun(12)", x.lastRun(12), NONE);
        x.runCell(99);
        x.undo();
        x.undo();
        x.runCell(8);
        checks.due("10: lastRun(0)", x.lastRun(0), 8);
        checks.due("10: lastRun(1)", x.lastRun(1), NONE);
        x.deleteCell(0);
        checks.due("9: an edit that ran nothing", x.lastRunCount(), 0);
        x.undo();
        checks.due("9: undo() brings the list back", x.lastRunCount(), 1);
        checks.due("10: undo() brings the list back", x.lastRun(0), 8);
        x.setEager(1);
        checks.due("9: eager running counts", x.lastRunCount(), 8);
        x.moveCell(0, 5);
        checks.due("9: nothing was stale", x.lastRunCount(), 0);
        x.undo();
        checks.due("10: the index that the cell had when it was run", x.lastRun(7), 7);
    }
}
