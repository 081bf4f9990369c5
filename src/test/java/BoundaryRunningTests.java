/** The boundary cases that the document names of running cells, results and versions, and of promises 7 to 10 and 14 to 18. */
final class BoundaryRunningTests {
    private static final int NONE = -10001, INVALID = -10002, REJECTED = -10003;
    private static final int FRESH = 0, STALE = 1;
    private static final int MULTIPLE = 2, CYCLE = 3, UNDEFINED = 4, BAD_INPUT = 5;
    private static final int OVERFLOW = 6, ZERO_DIVISION = 7;
    private static final int ADD = 0, SUBTRACT = 1, MULTIPLY = 2, DIVIDE = 3, MAXIMUM = 4, MINIMUM = 5;
    private static final int MIN = Integer.MIN_VALUE, MAX = Integer.MAX_VALUE;
    private static final int[] FAR_CELLS = {-1, 12, 32, MIN, MAX};
    private static final Checks checks = new Checks("BoundaryRunningTests");

    public static void main(String[] args) {
        resultsFromMinus9999To9999();
        exactValueOutsideTheRange();
        badInputAsResult();
        badInputBeforeZeroDivision();
        zeroDivision();
        zeroDivisionOfDivideAlone();
        eachResultHasAVersion();
        versionOneIfNoneHasBeenGiven();
        versionOneMoreThanTheGreatest();
        undoRestoresTheGreatestVersion();
        equalResultKeepsItsVersion();
        differentResultGetsANewVersion();
        recordedVersions();
        newOrEditedCellHasNoResult();
        resultIsKeptWhenOtherCellsChange();
        resultIsKeptWithAStaticError();
        freshWithoutVariables();
        freshWhenTheDefinerIsFresh();
        freshWhenTheVersionIsTheRecordedOne();
        staleIfNotFresh();
        staleWhenReached();
        eagerCallsEndWithRunning();
        refusedCallsRunNothingInEagerMode();
        notEagerInitially();
        runStaleAnswer();
        runCellRunsItsDependenciesAlone();
        runCellAnswer();
        runCellInvalid();
        runCellRejected();
        lastRunCount();
        lastRunCountInEagerMode();
        lastRunIndex();
        lastRunTellsTheIndexWhenRun();
        value();
        valueRefused();
        valueOf();
        valueOfRefused();
        version();
        versionRefused();
        runs();
        runsStayWhenEditedOrMoved();
        runsRefused();
        totalRuns();
        checks.finish();
    }

    // ---- Terms, RUNNING: results

    private static void valueIs(int operator, int left, int right, int want) {
        ReactiveNotebook x = Notebooks.computed(operator, left, right);
        String what = "operator " + operator + " of " + left + " and " + right;
        checks.due(what + ": left operand", x.valueOf(3), left);
        checks.due(what + ": right operand", x.valueOf(7), right);
        checks.due(what + ": value", x.value(Notebooks.COMPUTED), want);
        checks.due(what + ": status", x.status(Notebooks.COMPUTED), FRESH);
    }

    private static void overflows(int operator, int left, int right) {
        ReactiveNotebook x = Notebooks.computed(operator, left, right);
        String what = "operator " + operator + " of " + left + " and " + right;
        checks.due(what + ": left operand", x.valueOf(3), left);
        checks.due(what + ": right operand", x.valueOf(7), right);
        checks.due(what + ": value", x.value(Notebooks.COMPUTED), NONE);
        checks.due(what + ": status", x.status(Notebooks.COMPUTED), OVERFLOW);
    }

    private static void resultsFromMinus9999To9999() {
        checks.sentence("RUNNING", "A result is a value from -9999 to 9999");
        valueIs(ADD, 9998, 1, 9999);
        valueIs(ADD, -9998, -1, -9999);
        valueIs(ADD, 9999, -9999, 0);
        valueIs(SUBTRACT, -9998, 1, -9999);
        valueIs(SUBTRACT, 9998, -1, 9999);
        valueIs(SUBTRACT, 9999, 9999, 0);
        valueIs(MULTIPLY, 101, 99, 9999);
        valueIs(MULTIPLY, -101, 99, -9999);
        valueIs(MULTIPLY, 9999, -1, -9999);
        valueIs(MULTIPLY, -9999, -1, 9999);
        valueIs(MULTIPLY, -9999, 0, 0);
        valueIs(DIVIDE, 9999, 1, 9999);
        valueIs(DIVIDE, 9999, -1, -9999);
        valueIs(DIVIDE, -9999, 1, -9999);
        valueIs(DIVIDE, -9999, -1, 9999);
        valueIs(DIVIDE, -9999, 9999, -1);
        valueIs(MAXIMUM, 9999, -9999, 9999);
        valueIs(MAXIMUM, -9999, -9999, -9999);
        valueIs(MINIMUM, 9999, -9999, -9999);
        valueIs(MINIMUM, 9999, 9999, 9999);
    }

    private static void exactValueOutsideTheRange() {
        checks.sentence("RUNNING", "Otherwise it is OVERFLOW if the exact value lies outside the range.");
        overflows(ADD, 9999, 1);
        overflows(ADD, 1, 9999);
        overflows(ADD, 9999, 9999);
        overflows(ADD, -9999, -1);
        overflows(ADD, -9999, -9999);
        overflows(SUBTRACT, -9999, 1);
        overflows(SUBTRACT, 9999, -1);
        overflows(SUBTRACT, 9999, -9999);
        overflows(SUBTRACT, -9999, 9999);
        overflows(MULTIPLY, 100, 100);
        overflows(MULTIPLY, -100, 100);
        overflows(MULTIPLY, 5000, 2);
        overflows(MULTIPLY, 9999, 9999);
        overflows(MULTIPLY, 9999, -9999);
        overflows(MULTIPLY, -9999, -9999);
    }

    /** Variable 0 is 8; variables 1, 2 and 3 have results that are OVERFLOW, ZERO_DIVISION and BAD_INPUT. */
    private static ReactiveNotebook errorResults() {
        ReactiveNotebook x = new ReactiveNotebook();
        x.addCell(0, ADD, 7, 1);
        x.addCell(4, MULTIPLY, 99, 99);
        x.addCell(1, ADD, 104, 104);
        x.addCell(2, DIVIDE, 7, 0);
        x.addCell(3, ADD, 101, 1);
        x.runStale();
        return x;
    }

    private static void badInputAsResult() {
        checks.sentence("RUNNING",
            "The result is BAD_INPUT if a used variable has no value because the result of its cell is an error.");
        ReactiveNotebook inputs = errorResults();
        checks.due("status of variable 1", inputs.status(2), OVERFLOW);
        checks.due("status of variable 2", inputs.status(3), ZERO_DIVISION);
        checks.due("status of variable 3", inputs.status(4), BAD_INPUT);
        for (int variable = 1; variable <= 3; variable++) {
            for (int operator = 0; operator < 6; operator++) {
                badInputIs(operator, 100 + variable, 0);
                badInputIs(operator, 0, 100 + variable);
                badInputIs(operator, 100 + variable, 100);
                badInputIs(operator, 100, 100 + variable);
                badInputIs(operator, 100 + variable, 100 + variable);
                badInputIs(operator, 100 + variable, 101);
            }
        }
    }

    private static void badInputIs(int operator, int left, int right) {
        ReactiveNotebook x = errorResults();
        x.addCell(9, operator, left, right);
        String what = "operator " + operator + " of " + left + " and " + right;
        checks.due(what + ": runCell(5)", x.runCell(5), 1);
        checks.due(what + ": status", x.status(5), BAD_INPUT);
        checks.due(what + ": value", x.value(5), NONE);
        checks.due(what + ": it is a result", x.version(5), 6);
    }

    private static void badInputBeforeZeroDivision() {
        checks.sentence("RUNNING", "Otherwise it is ZERO_DIVISION if the operator is DIVIDE and the right operand is 0.");
        badInputIs(DIVIDE, 101, 0);
        badInputIs(DIVIDE, 102, 0);
        badInputIs(DIVIDE, 103, 0);
        ReactiveNotebook x = errorResults();
        x.editCell(0, 0, SUBTRACT, 5, 5);
        x.addCell(9, DIVIDE, 102, 100);
        x.runStale();
        checks.due("an error by a variable that is 0", x.status(5), BAD_INPUT);
        x.editCell(5, 9, DIVIDE, 100, 100);
        x.runStale();
        checks.due("0 by 0, both a variable", x.status(5), ZERO_DIVISION);
    }

    private static void zeroDivision() {
        checks.sentence("RUNNING", "Otherwise it is ZERO_DIVISION if the operator is DIVIDE and the right operand is 0.");
        int[] dividends = {-9999, -1, 0, 1, 9999};
        for (int dividend : dividends) {
            ReactiveNotebook x = Notebooks.computed(DIVIDE, dividend, 0);
            checks.due(dividend + " by 0: status", x.status(Notebooks.COMPUTED), ZERO_DIVISION);
            checks.due(dividend + " by 0: value", x.value(Notebooks.COMPUTED), NONE);
            valueIs(DIVIDE, dividend, 1, dividend);
            valueIs(DIVIDE, dividend, -1, -dividend);
        }
        ReactiveNotebook x = new ReactiveNotebook();
        x.addCell(0, DIVIDE, 0, 0);
        x.addCell(1, DIVIDE, 99, 0);
        x.runStale();
        checks.due("the constants 0 and 0", x.status(0), ZERO_DIVISION);
        checks.due("the constants 99 and 0", x.status(1), ZERO_DIVISION);
    }

    private static void zeroDivisionOfDivideAlone() {
        checks.sentence("RUNNING", "Otherwise it is ZERO_DIVISION if the operator is DIVIDE and the right operand is 0.");
        valueIs(ADD, 5, 0, 5);
        valueIs(SUBTRACT, 5, 0, 5);
        valueIs(MULTIPLY, 5, 0, 0);
        valueIs(MAXIMUM, 5, 0, 5);
        valueIs(MINIMUM, 5, 0, 0);
        valueIs(DIVIDE, 0, 5, 0);
    }

    // ---- Terms, RUNNING: versions

    private static void eachResultHasAVersion() {
        checks.sentence("RUNNING", "Each result has a version.");
        ReactiveNotebook x = errorResults();
        int[] want = {1, 2, 3, 4, 5};
        for (int cell = 0; cell < 5; cell++) {
            checks.due("a result with status " + x.status(cell), x.version(cell), want[cell]);
        }
        x.addCell(9, ADD, 1, 1);
        checks.due("no result", x.version(5), 0);
        ReactiveNotebook y = Notebooks.full();
        checks.due("no result with a static error", y.version(9), 0);
    }

    private static void versionOneIfNoneHasBeenGiven() {
        checks.sentence("RUNNING",
            "1 more than the greatest version that has been given so far in the notebook (1 if none has been given).");
        ReactiveNotebook x = Notebooks.constants(3);
        x.runCell(2);
        checks.due("the first that is run", x.version(2), 1);
        checks.due("a cell that was not run", x.version(0), 0);
        ReactiveNotebook y = new ReactiveNotebook();
        y.addCell(0, DIVIDE, 1, 0);
        y.runStale();
        checks.due("an error as the first result", y.version(0), 1);
        y.undo();
        y.runStale();
        checks.due("none has been given again after undo()", y.version(0), 1);
    }

    private static void versionOneMoreThanTheGreatest() {
        checks.sentence("RUNNING", "1 more than the greatest version that has been given so far in the notebook");
        ReactiveNotebook x = Notebooks.constants(3);
        x.runStale();
        x.deleteCell(2);
        x.editCell(0, 0, ADD, 5, 5);
        x.runStale();
        checks.due("the greatest was given to a deleted cell", x.version(0), 4);
        x.editCell(0, 0, ADD, 5, 6);
        x.runStale();
        checks.due("the greatest was that of the edited cell", x.version(0), 5);
        x.editCell(1, 1, ADD, 5, 6);
        x.runStale();
        checks.due("the greatest belongs to another cell", x.version(1), 6);
        x.deleteCell(0);
        x.deleteCell(0);
        x.addCell(0, ADD, 1, 1);
        x.runStale();
        checks.due("all cells that had one are deleted", x.version(0), 7);
    }

    private static void undoRestoresTheGreatestVersion() {
        checks.sentence("RUNNING", "undo() also restores this greatest version.");
        ReactiveNotebook x = Notebooks.constants(2);
        x.runCell(0);
        x.runCell(1);
        checks.due("version(1) at first", x.version(1), 2);
        x.undo();
        x.runCell(1);
        checks.due("given once more", x.version(1), 2);
        x.undo();
        x.undo();
        x.runCell(1);
        checks.due("none was given before", x.version(1), 1);
        x.runCell(0);
        checks.due("and goes on from there", x.version(0), 2);
        x.deleteCell(0);
        x.undo();
        x.addCell(5, ADD, 1, 1);
        x.runStale();
        checks.due("an undone deletion changes it not", x.version(2), 3);
    }

    private static void equalResultKeepsItsVersion() {
        checks.sentence("RUNNING", "If the new result equals the old one, the version stays the same.");
        int[][] inputs = {{ADD, 3, 4}, {ADD, 0, 0}, {MULTIPLY, 99, 99}, {DIVIDE, 1, 0}};
        for (int[] input : inputs) {
            ReactiveNotebook x = new ReactiveNotebook();
            x.addCell(0, input[0], input[1], input[2]);
            x.addCell(1, ADD, 100, 0);
            x.addCell(2, ADD, 101, 101);
            x.runStale();
            int status = x.status(2);
            x.editCell(0, 0, input[0], input[1], input[2]);
            checks.due("the edited cell and the one that uses it", x.runStale(), 2);
            checks.due("no result before: a new version", x.version(0), 4);
            checks.due("an equal result: the same version", x.version(1), 2);
            checks.due("cell 2 needs no run", x.version(2), 3);
            checks.due("its status", x.status(2), status);
        }
    }

    private static void differentResultGetsANewVersion() {
        checks.sentence("RUNNING",
            "When a cell is run and has no result yet, or the new result differs from the old one, the new result"
            + " gets a new version");
        ReactiveNotebook x = new ReactiveNotebook();
        x.addCell(0, ADD, 1, 1);
        x.addCell(1, MULTIPLY, 100, 100);
        x.addCell(2, DIVIDE, 99, 100);
        x.runStale();
        versionsBehind(x, "a value in a value's place", ADD, 3, 4, FRESH, FRESH, 4, 5, 6);
        versionsBehind(x, "the next value above", ADD, 4, 4, FRESH, FRESH, 7, 8, 9);
        versionsBehind(x, "the same size with another sign", SUBTRACT, 0, 8, FRESH, FRESH, 10, 8, 11);
        versionsBehind(x, "0, and ZERO_DIVISION in a value's place", ADD, 0, 0, FRESH, ZERO_DIVISION, 12, 13, 14);
        versionsBehind(x, "BAD_INPUT in a value's and an error's place", DIVIDE, 1, 0, BAD_INPUT, BAD_INPUT, 15, 16, 17);
        versionsBehind(x, "OVERFLOW in BAD_INPUT's place", MULTIPLY, 99, 99, OVERFLOW, FRESH, 18, 19, 20);
        versionsBehind(x, "a value in an error's place", ADD, 5, 5, FRESH, FRESH, 21, 22, 23);
    }

    /** Edits cell 0, runs all three cells, and looks at the statuses of cells 1 and 2 and at all versions. */
    private static void versionsBehind(ReactiveNotebook x, String what, int operator, int left, int right, int... want) {
        x.editCell(0, 0, operator, left, right);
        checks.due(what + ": runStale()", x.runStale(), 3);
        checks.due(what + ": status(1)", x.status(1), want[0]);
        checks.due(what + ": status(2)", x.status(2), want[1]);
        checks.due(what + ": version(0), which had no result", x.version(0), want[2]);
        checks.due(what + ": version(1)", x.version(1), want[3]);
        checks.due(what + ": version(2)", x.version(2), want[4]);
    }

    private static void recordedVersions() {
        checks.sentence("RUNNING",
            "Running a cell also records, for each operand that is a variable, the version of the result that was"
            + " used.");
        int[][] operands = {{100, 50}, {50, 100}, {100, 100}, {100, 101}, {101, 100}};
        for (int[] operand : operands) {
            ReactiveNotebook x = new ReactiveNotebook();
            x.addCell(0, ADD, 1, 1);
            x.addCell(1, ADD, 7, 7);
            x.addCell(2, ADD, operand[0], operand[1]);
            x.runStale();
            String what = "operands " + operand[0] + " and " + operand[1];
            checks.due(what + ": fresh", x.status(2), FRESH);
            x.editCell(0, 0, ADD, 1, 1);
            x.runCell(0);
            checks.due(what + ": not the recorded version", x.status(2), STALE);
            x.runCell(2);
            checks.due(what + ": recorded anew, though the result is equal", x.status(2), FRESH);
            checks.due(what + ": the version stays", x.version(2), 3);
            checks.due(what + ": nothing is to be run", x.runStale(), 0);
        }
    }

    private static void newOrEditedCellHasNoResult() {
        checks.sentence("RUNNING", "A new or edited cell has no result.");
        ReactiveNotebook x = new ReactiveNotebook();
        x.addCell(0, ADD, 1, 1);
        checks.due("a new cell: version", x.version(0), 0);
        checks.due("a new cell: status", x.status(0), STALE);
        checks.due("a new cell: value", x.value(0), NONE);
        x.runStale();
        x.editCell(0, 0, ADD, 1, 1);
        checks.due("an edited cell: version", x.version(0), 0);
        checks.due("an edited cell: status", x.status(0), STALE);
        checks.due("an edited cell: value", x.value(0), NONE);
        x.runStale();
        x.deleteCell(0);
        x.addCell(0, ADD, 1, 1);
        checks.due("a cell like the deleted one at its place: version", x.version(0), 0);
        checks.due("a cell like the deleted one at its place: status", x.status(0), STALE);
        ReactiveNotebook y = Notebooks.full();
        y.deleteCell(0);
        y.addCell(0, ADD, 1, 1);
        checks.due("the twelfth, where one with a result stood: version", y.version(11), 0);
    }

    private static void resultIsKeptWhenOtherCellsChange() {
        checks.sentence("RUNNING", "A cell keeps its result when other cells are added, edited, moved or deleted");
        ReactiveNotebook x = Notebooks.constants(4);
        x.runStale();
        x.addCell(5, ADD, 1, 1);
        checks.due("another is added: value", x.value(1), 11);
        checks.due("another is added: version", x.version(1), 2);
        x.editCell(0, 0, ADD, 7, 7);
        checks.due("another is edited: value", x.value(1), 11);
        checks.due("another is edited: version", x.version(1), 2);
        x.moveCell(0, 3);
        checks.due("another is moved: value", x.value(0), 11);
        checks.due("another is moved: version", x.version(0), 2);
        x.deleteCell(1);
        checks.due("another is deleted: value", x.value(0), 11);
        checks.due("another is deleted: version", x.version(0), 2);
        checks.due("runs", x.runs(0), 1);
        x.addCell(6, ADD, 101, 1);
        x.runStale();
        x.editCell(0, 1, ADD, 9, 9);
        checks.due("a stale one keeps it too", x.version(4), 7);
    }

    private static void resultIsKeptWithAStaticError() {
        checks.sentence("RUNNING", "and also while it has a static error.");
        ReactiveNotebook x = Notebooks.chain(3);
        x.runStale();
        x.addCell(0, ADD, 1, 1);
        checks.due("MULTIPLE", x.status(0), MULTIPLE);
        checks.due("MULTIPLE: version", x.version(0), 1);
        checks.due("BAD_INPUT", x.status(2), BAD_INPUT);
        checks.due("BAD_INPUT: version", x.version(2), 3);
        checks.due("nothing can be run", x.runStale(), 0);
        x.deleteCell(3);
        checks.due("no error any more: fresh as it was", x.value(0), 2);
        checks.due("no error any more: fresh as it was", x.value(2), 4);
        x.editCell(0, 0, ADD, 102, 1);
        checks.due("CYCLE", x.status(1), CYCLE);
        checks.due("CYCLE: version", x.version(1), 2);
        x.undo();
        x.deleteCell(0);
        checks.due("UNDEFINED", x.status(0), UNDEFINED);
        checks.due("UNDEFINED: version", x.version(0), 2);
        checks.due("UNDEFINED: runs", x.runs(0), 1);
        x.addCell(0, ADD, 1, 1);
        x.runStale();
        checks.due("run again with an equal result", x.version(0), 2);
    }

    // ---- Terms, RUNNING: fresh and stale

    private static void freshWithoutVariables() {
        checks.sentence("RUNNING", "A runnable cell is fresh if it has a result");
        ReactiveNotebook x = Notebooks.rivals(1);
        checks.due("no result", x.status(0), STALE);
        x.runStale();
        checks.due("a result and constants alone", x.status(0), FRESH);
        x.editCell(0, 0, DIVIDE, 1, 0);
        checks.due("none again", x.status(0), STALE);
        x.runStale();
        checks.due("an error is a result", x.staleCount(), 0);
    }

    private static void freshWhenTheDefinerIsFresh() {
        checks.sentence("RUNNING", "the cell that defines the variable is fresh");
        for (int side = 0; side < 2; side++) {
            ReactiveNotebook x = Notebooks.constants(2);
            x.addCell(2, ADD, side == 0 ? 100 : 101, side == 0 ? 101 : 100);
            x.addCell(3, ADD, side == 0 ? 102 : 1, side == 0 ? 1 : 102);
            x.runStale();
            checks.due("all are fresh", x.staleCount(), 0);
            x.editCell(0, 0, ADD, 0, 10);
            checks.due("one definer of two is stale", x.status(2), STALE);
            checks.due("and so is the next", x.status(3), STALE);
            checks.due("though their versions are the recorded ones", x.version(2), 3);
            x.undo();
            checks.due("fresh again", x.staleCount(), 0);
        }
    }

    private static void freshWhenTheVersionIsTheRecordedOne() {
        checks.sentence("RUNNING", "and the version of its result is the recorded one.");
        ReactiveNotebook x = Notebooks.chain(2);
        x.runStale();
        x.addCell(0, ADD, 1, 1);
        x.deleteCell(0);
        x.runCell(1);
        checks.due("another definer with an equal value, but its own version", x.version(1), 3);
        checks.due("is not the recorded one", x.status(0), STALE);
        x.moveCell(1, 0);
        checks.due("nor after a move", x.status(1), STALE);
        x.runStale();
        checks.due("recorded now", x.status(1), FRESH);
        x.moveCell(1, 0);
        checks.due("a move leaves it fresh", x.status(0), FRESH);
    }

    private static void staleIfNotFresh() {
        checks.sentence("RUNNING", "A runnable cell that is not fresh is stale.");
        ReactiveNotebook x = Notebooks.chain(3);
        for (int fresh = 0; fresh <= 3; fresh++) {
            for (int cell = 0; cell < 3; cell++) {
                checks.due(fresh + " are fresh: status(" + cell + ")", x.status(cell), cell < fresh ? FRESH : STALE);
            }
            checks.due(fresh + " are fresh: staleCount()", x.staleCount(), 3 - fresh);
            x.runCell(Math.min(fresh, 2));
        }
        x.editCell(0, 0, ADD, 109, 1);
        checks.due("a cell that is not runnable is not stale", x.staleCount(), 0);
        checks.due("its status", x.status(0), UNDEFINED);
    }

    // ---- Terms, RUN ORDER: running the stale cells

    private static void staleWhenReached() {
        checks.sentence("RUN ORDER",
            "go through the run order once, and run each cell that is stale at the moment when it is reached.");
        ReactiveNotebook x = Notebooks.chain(10);
        x.editCell(1, 1, MINIMUM, 100, 0);
        checks.due("all", x.runStale(), 10);
        x.editCell(0, 0, ADD, 3, 3);
        checks.due("all are stale before", x.staleCount(), 10);
        checks.due("cut off behind the second", x.runStale(), 2);
        checks.due("none is stale then", x.staleCount(), 0);
        checks.due("runs of the last", x.runs(9), 1);
        x.editCell(0, 0, ADD, 4, 4);
        x.editCell(9, 9, ADD, 108, 2);
        checks.due("and the last, which was edited", x.runStale(), 3);
        checks.due("it is run third", x.lastRun(2), 9);
        ReactiveNotebook y = Notebooks.reversedChain(10);
        checks.due("once is enough for the longest chain, backwards", y.runStale(), 10);
        checks.due("the last in the list is run first", y.lastRun(0), 9);
    }

    private static void eagerCallsEndWithRunning() {
        checks.sentence("RUN ORDER",
            "In eager mode, every successful call of addCell(), editCell(), deleteCell(), moveCell() and setEager()"
            + " ends with running the stale cells.");
        ReactiveNotebook x = Notebooks.chain(2);
        x.setEager(1);
        checks.due("setEager(1)", x.lastRunCount(), 2);
        x.addCell(2, ADD, 101, 1);
        checks.due("addCell", x.lastRunCount(), 1);
        checks.due("addCell: value(2)", x.value(2), 4);
        x.editCell(0, 0, ADD, 5, 5);
        checks.due("editCell", x.lastRunCount(), 3);
        checks.due("editCell: value(2)", x.value(2), 12);
        x.moveCell(2, 0);
        checks.due("moveCell, with nothing stale", x.lastRunCount(), 0);
        x.addCell(2, ADD, 1, 1);
        checks.due("addCell of a rival", x.lastRunCount(), 0);
        x.deleteCell(0);
        checks.due("deleteCell of the other", x.lastRunCount(), 1);
        checks.due("deleteCell: value(2)", x.value(2), 2);
        x.setEager(1);
        checks.due("setEager(1) once more, with nothing stale", x.lastRunCount(), 0);
        x.setEager(0);
        checks.due("setEager(0)", x.lastRunCount(), 0);
        x.editCell(0, 0, ADD, 1, 1);
        checks.due("not in eager mode any more", x.staleCount(), 2);
        x.setEager(0);
        checks.due("setEager(0) runs nothing", x.staleCount(), 2);
        x.undo();
        x.undo();
        x.undo();
        checks.due("undo() to eager mode runs nothing", x.totalRuns(), 7);
        x.editCell(0, 0, ADD, 1, 1);
        checks.due("but the next call does", x.lastRunCount(), 2);
    }

    private static void refusedCallsRunNothingInEagerMode() {
        checks.sentence("RUN ORDER",
            "In eager mode, every successful call of addCell(), editCell(), deleteCell(), moveCell() and setEager()");
        Twins.refusedBy(checks, "addCell", Notebooks::eager, x -> x.addCell(0, ADD, 110, 1), INVALID);
        Twins.refusedBy(checks, "editCell", Notebooks::eager, x -> x.editCell(4, 0, ADD, 1, 1), INVALID);
        Twins.refusedBy(checks, "deleteCell", Notebooks::eager, x -> x.deleteCell(4), INVALID);
        Twins.refusedBy(checks, "moveCell", Notebooks::eager, x -> x.moveCell(3, 4), INVALID);
        Twins.refusedBy(checks, "setEager", Notebooks::eager, x -> x.setEager(2), INVALID);
        checks.due("the last run of before is told", Notebooks.eager().lastRunCount(), 3);
    }

    private static void notEagerInitially() {
        checks.sentence("RUN ORDER", "Initially the mode is not eager.");
        ReactiveNotebook x = new ReactiveNotebook();
        x.addCell(0, ADD, 1, 1);
        checks.due("addCell", x.totalRuns(), 0);
        x.editCell(0, 0, ADD, 1, 2);
        x.moveCell(0, 0);
        checks.due("editCell and moveCell", x.totalRuns(), 0);
        checks.due("setEager(1) tells the mode before", x.setEager(1), 0);
    }

    // ---- Promises 7 to 10

    private static void runStaleAnswer() {
        checks.sentence("Promise 7", "Returns the number of cells that were run.");
        checks.due("an empty notebook", new ReactiveNotebook().runStale(), 0);
        checks.due("none runnable", Notebooks.rivals(12).runStale(), 0);
        for (int cells = 1; cells <= 10; cells++) {
            ReactiveNotebook x = Notebooks.chain(cells);
            checks.due(cells + " stale cells", x.runStale(), cells);
            checks.due("none is stale any more", x.runStale(), 0);
        }
        ReactiveNotebook x = Notebooks.constants(10);
        x.addCell(0, ADD, 1, 1);
        x.addCell(0, ADD, 1, 1);
        checks.due("nine of a full notebook", x.runStale(), 9);
        x.editCell(9, 9, ADD, 1, 1);
        checks.due("one", x.runStale(), 1);
    }

    private static void runCellRunsItsDependenciesAlone() {
        checks.sentence("Promise 8", "runs each cell that is stale when it is reached and that is the given cell"
            + " or one on which the given cell depends directly or indirectly.");
        for (int cell = 0; cell < 10; cell++) {
            ReactiveNotebook x = Notebooks.chain(10);
            checks.due("chain: runCell(" + cell + ")", x.runCell(cell), cell + 1);
            checks.due("chain: those behind stay stale", x.staleCount(), 9 - cell);
            ReactiveNotebook y = Notebooks.constants(10);
            checks.due("constants: runCell(" + cell + ")", y.runCell(cell), 1);
            checks.due("constants: it is the one", y.lastRun(0), cell);
        }
        ReactiveNotebook x = Notebooks.chain(10);
        x.editCell(1, 1, MINIMUM, 100, 0);
        x.runStale();
        x.editCell(0, 0, ADD, 3, 3);
        checks.due("stale before, but not when reached", x.runCell(9), 2);
        x.editCell(0, 0, ADD, 4, 4);
        x.editCell(5, 5, ADD, 104, 1);
        checks.due("the given cell alone is not reached by it", x.runCell(4), 2);
        checks.due("cell 5 was not asked for", x.status(5), STALE);
    }

    private static void runCellAnswer() {
        checks.sentence("Promise 8", "Returns the number of cells that were run");
        ReactiveNotebook x = Notebooks.reversedChain(10);
        checks.due("ten", x.runCell(0), 10);
        checks.due("none", x.runCell(0), 0);
        x.editCell(0, 0, ADD, 101, 2);
        checks.due("one", x.runCell(0), 1);
    }

    private static void runCellInvalid() {
        checks.sentence("Promise 8", "INVALID if there is no such cell");
        for (int wrong : FAR_CELLS) {
            Twins.refused(checks, "runCell(" + wrong + ")", x -> x.runCell(wrong), INVALID);
        }
        Twins.refused(checks, "runCell of the cell above the last", x -> x.runCell(x.cellCount()), INVALID);
        checks.due("the last of 12 exists", Notebooks.full().runCell(11), REJECTED);
        checks.due("the first of 12 exists", Notebooks.full().runCell(0), 0);
    }

    private static void runCellRejected() {
        checks.sentence("Promise 8", "REJECTED if the cell has a static error.");
        for (int cell = 0; cell < 5; cell++) {
            int rejected = cell;
            Twins.refusedBy(checks, "runCell(" + cell + ")", Notebooks::busy, x -> x.runCell(rejected), REJECTED);
        }
        Twins.refusedBy(checks, "in eager mode", () -> {
            ReactiveNotebook x = Notebooks.eager();
            x.addCell(3, ADD, 1, 1);
            return x;
        }, x -> x.runCell(2), REJECTED);
        Twins.refusedBy(checks, "the last of 12", Notebooks::full, x -> x.runCell(11), REJECTED);
        ReactiveNotebook x = errorResults();
        x.editCell(3, 2, DIVIDE, 8, 0);
        checks.due("a result that is OVERFLOW", x.runCell(2), 0);
        checks.due("one that will be ZERO_DIVISION", x.runCell(3), 1);
        checks.due("a result that is BAD_INPUT", x.runCell(4), 0);
    }

    private static void lastRunCount() {
        checks.sentence("Promise 9", "Returns the number of cells, 0 if there was no such call.");
        ReactiveNotebook x = new ReactiveNotebook();
        checks.due("no call", x.lastRunCount(), 0);
        x.runCell(0);
        x.undo();
        checks.due("refused calls alone", x.lastRunCount(), 0);
        ReactiveNotebook y = Notebooks.chain(10);
        y.runStale();
        checks.due("the most", y.lastRunCount(), 10);
        y.runCell(10);
        y.addCell(10, ADD, 1, 1);
        checks.due("a refused call is none", y.lastRunCount(), 10);
        y.runStale();
        checks.due("a successful one that ran none", y.lastRunCount(), 0);
        y.undo();
        checks.due("undone", y.lastRunCount(), 10);
        y.undo();
        checks.due("undone further", y.lastRunCount(), 0);
    }

    private static void lastRunCountInEagerMode() {
        checks.sentence("Promise 9", "Returns the number of cells that were run by the latest successful undoable call,"
            + " including the running in eager mode.");
        ReactiveNotebook x = Notebooks.chain(10);
        checks.due("an edit in non-eager mode", x.lastRunCount(), 0);
        x.setEager(1);
        checks.due("all ten", x.lastRunCount(), 10);
        x.setEager(1);
        checks.due("none", x.lastRunCount(), 0);
        x.editCell(0, 0, ADD, 2, 2);
        checks.due("all ten again", x.lastRunCount(), 10);
        x.addCell(9, ADD, 1, 1);
        checks.due("an added rival", x.lastRunCount(), 0);
        x.runStale();
        checks.due("runStale() in eager mode", x.lastRunCount(), 0);
        x.deleteCell(10);
        checks.due("the rival is gone: its cell had kept its result", x.lastRunCount(), 0);
        x.editCell(9, 9, ADD, 1, 1);
        checks.due("one", x.lastRunCount(), 1);
        x.runCell(9);
        checks.due("runCell of a fresh cell", x.lastRunCount(), 0);
    }

    private static void lastRunIndex() {
        checks.sentence("Promise 10", "NONE if index is not below lastRunCount(); INVALID if index is negative.");
        for (int wrong : new int[] {-1, -2, MIN}) {
            Twins.refused(checks, "lastRun(" + wrong + ")", x -> x.lastRun(wrong), INVALID);
        }
        checks.due("0 when nothing was run", new ReactiveNotebook().lastRun(0), NONE);
        ReactiveNotebook x = Notebooks.reversedChain(10);
        x.runStale();
        checks.due("the first", x.lastRun(0), 9);
        checks.due("the last", x.lastRun(9), 0);
        for (int above : new int[] {10, 11, 12, 13, 100, MAX}) {
            checks.due("lastRun(" + above + ")", x.lastRun(above), NONE);
        }
        x.editCell(0, 0, ADD, 1, 1);
        x.runStale();
        checks.due("the only one", x.lastRun(0), 0);
        checks.due("the list is shorter than the one before", x.lastRun(1), NONE);
        checks.due("NONE is no error", x.errorCount(0) + x.errorCount(1) + x.errorCount(2), 0);
    }

    private static void lastRunTellsTheIndexWhenRun() {
        checks.sentence("Promise 10", "Returns the index that the cell had when it was run");
        ReactiveNotebook x = Notebooks.rivals(1);
        x.setEager(1);
        x.addCell(5, ADD, 1, 1);
        x.addCell(0, ADD, 1, 1);
        x.deleteCell(0);
        checks.due("deleteCell(0) runs cell 2 as cell 1", x.lastRun(0), 1);
        checks.due("and no other", x.lastRunCount(), 1);
        x.undo();
        checks.due("undo() tells the call before again", x.lastRunCount(), 0);
    }

    // ---- Promises 14 to 18

    private static void value() {
        checks.sentence("Promise 14", "Returns the value if the status of the cell is FRESH; NONE otherwise");
        ReactiveNotebook x = Notebooks.busy();
        for (int cell = 0; cell < x.cellCount(); cell++) {
            checks.due("status " + x.status(cell), x.value(cell), x.status(cell) == FRESH ? 9801 : NONE);
        }
        checks.due("the least", Notebooks.computed(ADD, -9999, 0).value(Notebooks.COMPUTED), -9999);
        checks.due("the greatest", Notebooks.computed(ADD, 9999, 0).value(Notebooks.COMPUTED), 9999);
        checks.due("0", Notebooks.computed(ADD, 0, 0).value(Notebooks.COMPUTED), 0);
    }

    private static void valueRefused() {
        checks.sentence("Promise 14", "INVALID if there is no such cell.");
        for (int wrong : FAR_CELLS) {
            Twins.refused(checks, "value(" + wrong + ")", x -> x.value(wrong), INVALID);
        }
        Twins.refused(checks, "value of the cell above the last", x -> x.value(x.cellCount()), INVALID);
        checks.due("the last of 12", Notebooks.full().value(11), NONE);
        checks.due("the first of 12", Notebooks.full().value(0), 2);
    }

    private static void valueOf() {
        checks.sentence("Promise 15", "if exactly one cell defines it and the status of that cell is FRESH; NONE otherwise");
        ReactiveNotebook x = new ReactiveNotebook();
        checks.due("no definer", x.valueOf(9), NONE);
        x.addCell(9, ADD, 3, 3);
        checks.due("one, STALE", x.valueOf(9), NONE);
        x.runStale();
        checks.due("one, FRESH", x.valueOf(9), 6);
        x.addCell(9, ADD, 3, 3);
        checks.due("two", x.valueOf(9), NONE);
        x.deleteCell(0);
        checks.due("the one that is left, STALE", x.valueOf(9), NONE);
        x.undo();
        x.deleteCell(1);
        checks.due("the one that is left, FRESH", x.valueOf(9), 6);
        ReactiveNotebook y = Notebooks.busy();
        int[] want = {NONE, NONE, NONE, NONE, 9801, NONE, NONE, NONE, NONE, NONE};
        for (int variable = 0; variable < 10; variable++) {
            checks.due("each status: valueOf(" + variable + ")", y.valueOf(variable), want[variable]);
        }
        checks.due("12 definers", Notebooks.rivals(12).valueOf(0), NONE);
        checks.due("NONE is no error", x.errorCount(0), 0);
    }

    private static void valueOfRefused() {
        checks.sentence("Promise 15", "INVALID if variable is out of range.");
        for (int wrong : new int[] {-1, 10, 100, 109, MIN, MAX}) {
            Twins.refused(checks, "valueOf(" + wrong + ")", x -> x.valueOf(wrong), INVALID);
        }
        ReactiveNotebook x = Notebooks.constants(10);
        x.runStale();
        checks.due("the least", x.valueOf(0), 10);
        checks.due("the greatest", x.valueOf(9), 19);
    }

    private static void version() {
        checks.sentence("Promise 16", "Returns the version, 1 or more; 0 if the cell has no result");
        ReactiveNotebook x = Notebooks.chain(10);
        for (int cell = 0; cell < 10; cell++) {
            checks.due("no result", x.version(cell), 0);
            x.runCell(cell);
            checks.due("a result", x.version(cell), cell + 1);
        }
        x.editCell(0, 0, DIVIDE, 1, 0);
        checks.due("no result any more", x.version(0), 0);
        x.runCell(0);
        checks.due("an error", x.version(0), 11);
    }

    private static void versionRefused() {
        checks.sentence("Promise 16", "INVALID if there is no such cell.");
        for (int wrong : FAR_CELLS) {
            Twins.refused(checks, "version(" + wrong + ")", x -> x.version(wrong), INVALID);
        }
        Twins.refused(checks, "version of the cell above the last", x -> x.version(x.cellCount()), INVALID);
        checks.due("the last of 12", Notebooks.full().version(11), 0);
        checks.due("the first of 12", Notebooks.full().version(0), 1);
    }

    private static void runs() {
        checks.sentence("Promise 17", "Returns how often a cell has been run since it was added.");
        ReactiveNotebook x = Notebooks.constants(2);
        checks.due("never", x.runs(0), 0);
        x.runStale();
        checks.due("once", x.runs(0), 1);
        x.runStale();
        checks.due("a fresh cell is not run", x.runs(0), 1);
        x.editCell(0, 0, ADD, 0, 10);
        x.runStale();
        checks.due("twice", x.runs(0), 2);
        checks.due("the other once", x.runs(1), 1);
        x.deleteCell(0);
        x.addCell(0, ADD, 0, 10);
        checks.due("deleted and added anew", x.runs(1), 0);
        x.runStale();
        checks.due("once since then", x.runs(1), 1);
        x.addCell(1, ADD, 1, 1);
        x.runStale();
        checks.due("with a static error it is not run, and keeps its number", x.runs(0), 1);
        checks.due("never, with a static error from the first", x.runs(2), 0);
    }

    private static void runsStayWhenEditedOrMoved() {
        checks.sentence("Promise 17", "Editing and moving do not change this number.");
        ReactiveNotebook x = Notebooks.constants(3);
        x.runCell(0);
        x.editCell(0, 5, SUBTRACT, 1, 1);
        checks.due("edited", x.runs(0), 1);
        x.runCell(0);
        checks.due("run once more", x.runs(0), 2);
        x.moveCell(0, 2);
        checks.due("moved to the end", x.runs(2), 2);
        checks.due("a cell moved by it", x.runs(0), 0);
        x.moveCell(2, 0);
        checks.due("moved to the start", x.runs(0), 2);
        checks.due("a cell moved by it", x.runs(2), 0);
        x.editCell(2, 2, ADD, 1, 1);
        checks.due("0 stays 0", x.runs(2), 0);
    }

    private static void runsRefused() {
        checks.sentence("Promise 17", "Returns the number of runs; INVALID if there is no such cell.");
        for (int wrong : FAR_CELLS) {
            Twins.refused(checks, "runs(" + wrong + ")", x -> x.runs(wrong), INVALID);
        }
        Twins.refused(checks, "runs of the cell above the last", x -> x.runs(x.cellCount()), INVALID);
        checks.due("the last of 12", Notebooks.full().runs(11), 0);
        checks.due("the first of 12", Notebooks.full().runs(0), 1);
    }

    private static void totalRuns() {
        checks.sentence("Promise 18", "Returns the number of runs of all cells so far, including deleted cells.");
        checks.due("no cell", new ReactiveNotebook().totalRuns(), 0);
        ReactiveNotebook x = Notebooks.constants(10);
        checks.due("none was run", x.totalRuns(), 0);
        x.runStale();
        checks.due("each once", x.totalRuns(), 10);
        for (int cell = 9; cell >= 0; cell--) {
            x.deleteCell(cell);
            checks.due("with " + cell + " cells left", x.totalRuns(), 10);
        }
        x.addCell(0, ADD, 1, 1);
        x.runStale();
        checks.due("a new cell after all are deleted", x.totalRuns(), 11);
        x.undo();
        checks.due("undone", x.totalRuns(), 10);
    }
}
