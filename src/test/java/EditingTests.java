/** Promises 1 to 6: the new object and the calls that edit the notebook. */
final class EditingTests {
    private static final int NONE = -10001, INVALID = -10002, REJECTED = -10003, FULL = -10004;
    private static final int MIN = Integer.MIN_VALUE, MAX = Integer.MAX_VALUE;
    private static final Checks checks = new Checks("EditingTests");

    public static void main(String[] args) {
        newObject();
        addCell();
        addCellRefused();
        addCellFull();
        editCell();
        editCellRefused();
        deleteCell();
        moveCell();
        setEager();
        eagerModeRunsAfterEachEdit();
        refusedCallsChangeNothing();
        checks.finish();
    }

    private static void newObject() {
        ReactiveNotebook x = new ReactiveNotebook();
        checks.due("1: cellCount()", x.cellCount(), 0);
        checks.due("1: lastRunCount()", x.lastRunCount(), 0);
        checks.due("1: totalRuns()", x.totalRuns(), 0);
        checks.due("1: runnableCount()", x.runnableCount(), 0);
        checks.due("1: staleCount()", x.staleCount(), 0);
        for (int variable = 0; variable < 10; variable++) {
            checks.due("1: definers()", x.definers(variable), 0);
            checks.due("1: valueOf()", x.valueOf(variable), NONE);
        }
        for (int kind = 0; kind < 3; kind++) {
            checks.due("1: errorCount()", x.errorCount(kind), 0);
        }
        checks.due("1: undo() with an empty stack", x.undo(), REJECTED);
        checks.due("1: setEager(0) tells the first mode", x.setEager(0), 0);
        ReactiveNotebook other = new ReactiveNotebook();
        other.addCell(0, 0, 1, 1);
        checks.due("1: objects share nothing", x.cellCount(), 0);
    }

    private static void addCell() {
        ReactiveNotebook x = new ReactiveNotebook();
        checks.due("2: the least arguments", x.addCell(0, 0, 0, 0), 0);
        checks.due("2: the greatest arguments", x.addCell(9, 5, 109, 109), 1);
        checks.due("2: constants at their end", x.addCell(1, 1, 99, 100), 2);
        checks.due("2: cellCount()", x.cellCount(), 3);
        checks.due("2: appended at the end", x.variable(2), 1);
        checks.due("2: operand 99 is a constant, 100 variable 0", x.dependencies(2), 1);
        checks.due("2: operand 109 is variable 9", x.dependencies(1), 2);
        checks.due("2: a new cell has no result", x.version(0), 0);
        checks.due("2: a new cell has no runs", x.runs(0), 0);
        checks.due("2: not run in non-eager mode", x.totalRuns(), 0);
        x.runStale();
        checks.due("2: lastRunCount() after runStale()", x.lastRunCount(), 2);
        x.addCell(5, 0, 1, 1);
        checks.due("2: adding empties the last run", x.lastRunCount(), 0);
        checks.due("2: other cells keep their results", x.value(2), 99);
        x.deleteCell(0);
        x.addCell(6, 0, 1, 1);
        checks.due("2: a cell in a deleted one's place has no runs", x.runs(3), 0);
        checks.due("2: and no result", x.version(3), 0);
    }

    private static void addCellRefused() {
        ReactiveNotebook x = new ReactiveNotebook();
        int[][] wrong = {
            {-1, 0, 0, 0}, {10, 0, 0, 0}, {MIN, 0, 0, 0}, {MAX, 0, 0, 0},
            {0, -1, 0, 0}, {0, 6, 0, 0}, {0, MIN, 0, 0}, {0, MAX, 0, 0},
            {0, 0, -1, 0}, {0, 0, 110, 0}, {0, 0, MIN, 0}, {0, 0, MAX, 0},
            {0, 0, 0, -1}, {0, 0, 0, 110}, {0, 0, 0, MIN}, {0, 0, 0, MAX}};
        for (int[] w : wrong) {
            checks.due("2: a wrong argument", x.addCell(w[0], w[1], w[2], w[3]), INVALID);
        }
        checks.due("2: no cell was added", x.cellCount(), 0);
        checks.due("2: each was counted", x.errorCount(0), wrong.length);
        checks.due("2: nothing was saved", x.undo(), REJECTED);
    }

    private static void addCellFull() {
        ReactiveNotebook x = new ReactiveNotebook();
        for (int i = 0; i < 12; i++) {
            checks.due("2: addCell up to 12", x.addCell(i % 10, 0, 1, 1), i);
        }
        checks.due("2: a thirteenth cell", x.addCell(0, 0, 1, 1), FULL);
        checks.due("2: INVALID comes before FULL", x.addCell(10, 0, 1, 1), INVALID);
        checks.due("2: errorCount(2)", x.errorCount(2), 1);
        checks.due("2: errorCount(0)", x.errorCount(0), 1);
        checks.due("2: cellCount()", x.cellCount(), 12);
        x.deleteCell(4);
        checks.due("2: room again", x.addCell(0, 0, 1, 1), 11);
    }

    private static void editCell() {
        ReactiveNotebook x = new ReactiveNotebook();
        x.addCell(3, 0, 1, 2);
        x.addCell(4, 0, 103, 2);
        x.runStale();
        checks.due("3: editCell tells the variable before", x.editCell(0, 5, 1, 9, 2), 3);
        checks.due("3: the new variable", x.variable(0), 5);
        checks.due("3: the result is lost", x.version(0), 0);
        checks.due("3: the runs are not", x.runs(0), 1);
        checks.due("3: another cell keeps its result", x.version(1), 2);
        checks.due("3: and lacks its input now", x.status(1), 4);
        checks.due("3: lastRunCount()", x.lastRunCount(), 0);
        checks.due("3: editing back", x.editCell(0, 3, 0, 1, 2), 5);
        x.runStale();
        checks.due("3: the same definition", x.editCell(0, 3, 0, 1, 2), 3);
        checks.due("3: loses the result too", x.version(0), 0);
        checks.due("3: status", x.status(0), 1);
        checks.due("3: and makes dependents stale", x.status(1), 1);
        checks.due("3: both run", x.runStale(), 2);
        checks.due("3: with a new version for the same value", x.version(0), 4);
        checks.due("3: but none for an equal result that was kept", x.version(1), 2);
    }

    private static void editCellRefused() {
        ReactiveNotebook x = new ReactiveNotebook();
        x.addCell(3, 0, 1, 2);
        int[][] wrong = {
            {-1, 0, 0, 0, 0}, {1, 0, 0, 0, 0}, {MIN, 0, 0, 0, 0}, {MAX, 0, 0, 0, 0},
            {0, -1, 0, 0, 0}, {0, 10, 0, 0, 0}, {0, 0, -1, 0, 0}, {0, 0, 6, 0, 0},
            {0, 0, 0, -1, 0}, {0, 0, 0, 110, 0}, {0, 0, 0, 0, -1}, {0, 0, 0, 0, 110}};
        for (int[] w : wrong) {
            checks.due("3: a wrong argument", x.editCell(w[0], w[1], w[2], w[3], w[4]), INVALID);
        }
        checks.due("3: each was counted", x.errorCount(0), wrong.length);
        checks.due("3: the cell stands as it was", x.variable(0), 3);
        checks.due("3: only addCell was saved", x.undo(), 0);
    }

    private static void deleteCell() {
        ReactiveNotebook x = new ReactiveNotebook();
        for (int i = 0; i < 4; i++) {
            x.addCell(i, 0, i, 10);
        }
        x.runStale();
        checks.due("4: no cell 4", x.deleteCell(4), INVALID);
        checks.due("4: no cell -1", x.deleteCell(-1), INVALID);
        checks.due("4: deleteCell(1)", x.deleteCell(1), 3);
        checks.due("4: the first stays", x.variable(0), 0);
        checks.due("4: later cells move down", x.variable(1), 2);
        checks.due("4: later cells move down", x.variable(2), 3);
        checks.due("4: with their results", x.value(2), 13);
        checks.due("4: and versions", x.version(2), 4);
        checks.due("4: and runs", x.runs(2), 1);
        checks.due("4: lastRunCount()", x.lastRunCount(), 0);
        checks.due("4: there is no cell 3 any more", x.variable(3), INVALID);
        checks.due("4: totalRuns() still counts the deleted", x.totalRuns(), 4);
        checks.due("4: deleteCell of the last", x.deleteCell(2), 2);
        checks.due("4: deleteCell of the first", x.deleteCell(0), 1);
        checks.due("4: what is left", x.variable(0), 2);
        checks.due("4: deleteCell of the only", x.deleteCell(0), 0);
        checks.due("4: an empty notebook", x.deleteCell(0), INVALID);
        checks.due("4: errorCount(0)", x.errorCount(0), 4);
    }

    private static void moveCell() {
        ReactiveNotebook x = new ReactiveNotebook();
        for (int i = 0; i < 5; i++) {
            x.addCell(i, 0, i, 10);
        }
        x.runStale();
        checks.due("5: downwards", x.moveCell(1, 3), 3);
        variablesStand(x, "5: after moveCell(1, 3)", 0, 2, 3, 1, 4);
        checks.due("5: lastRunCount()", x.lastRunCount(), 0);
        checks.due("5: the moved cell keeps its value", x.value(3), 11);
        checks.due("5: and its version", x.version(3), 2);
        checks.due("5: and its runs", x.runs(3), 1);
        checks.due("5: another one too", x.value(1), 12);
        checks.due("5: nothing is stale", x.staleCount(), 0);
        checks.due("5: upwards", x.moveCell(4, 0), 5);
        variablesStand(x, "5: after moveCell(4, 0)", 4, 0, 2, 3, 1);
        checks.due("5: to its own place", x.moveCell(2, 2), 0);
        variablesStand(x, "5: after moveCell(2, 2)", 4, 0, 2, 3, 1);
        checks.due("5: the ends", x.moveCell(0, 4), 5);
        variablesStand(x, "5: after moveCell(0, 4)", 0, 2, 3, 1, 4);
        checks.due("5: neighbours", x.moveCell(1, 0), 2);
        variablesStand(x, "5: after moveCell(1, 0)", 2, 0, 3, 1, 4);
        checks.due("5: a move that changes nothing is saved too", x.undo(), 3);
        int[][] wrong = {{-1, 0}, {5, 0}, {0, -1}, {0, 5}, {MIN, 0}, {MAX, 0}, {0, MIN}, {0, MAX}, {5, 5}, {-1, -1}};
        for (int[] w : wrong) {
            checks.due("5: a wrong argument", x.moveCell(w[0], w[1]), INVALID);
        }
        checks.due("5: each was counted", x.errorCount(0), wrong.length);
        variablesStand(x, "5: after refused moves", 0, 2, 3, 1, 4);
    }

    private static void variablesStand(ReactiveNotebook x, String when, int... variables) {
        for (int cell = 0; cell < variables.length; cell++) {
            checks.due(when + ": variable(" + cell + ")", x.variable(cell), variables[cell]);
        }
    }

    private static void setEager() {
        ReactiveNotebook x = new ReactiveNotebook();
        x.addCell(0, 0, 1, 1);
        x.addCell(1, 0, 100, 1);
        for (int wrong : new int[] {-1, 2, MIN, MAX}) {
            checks.due("6: a wrong mode", x.setEager(wrong), INVALID);
        }
        checks.due("6: errorCount(0)", x.errorCount(0), 4);
        checks.due("6: from non-eager to eager", x.setEager(1), 0);
        checks.due("6: runs the stale cells", x.lastRunCount(), 2);
        checks.due("6: value(1)", x.value(1), 3);
        checks.due("6: from eager to eager", x.setEager(1), 1);
        checks.due("6: has nothing to run", x.lastRunCount(), 0);
        checks.due("6: from eager to non-eager", x.setEager(0), 1);
        x.addCell(2, 0, 1, 1);
        checks.due("6: runs no more", x.status(2), 1);
        checks.due("6: from non-eager to non-eager", x.setEager(0), 0);
        checks.due("6: runs nothing either", x.status(2), 1);
        checks.due("6: each of them was saved", x.undo(), 3);
    }

    private static void eagerModeRunsAfterEachEdit() {
        ReactiveNotebook x = new ReactiveNotebook();
        x.setEager(1);
        x.addCell(1, 0, 100, 1);
        checks.due("eager: an UNDEFINED cell is not run", x.lastRunCount(), 0);
        x.addCell(0, 0, 5, 5);
        checks.due("eager: addCell runs what it makes runnable", x.lastRunCount(), 2);
        checks.due("eager: in the run order", x.lastRun(0), 1);
        checks.due("eager: in the run order", x.lastRun(1), 0);
        x.editCell(1, 0, 0, 6, 6);
        checks.due("eager: editCell runs the cell and its dependent", x.lastRunCount(), 2);
        checks.due("eager: value(0)", x.value(0), 13);
        x.editCell(1, 0, 2, 6, 2);
        checks.due("eager: an edited cell gets a new version for an equal value", x.lastRunCount(), 2);
        x.moveCell(0, 1);
        checks.due("eager: moveCell makes nothing stale", x.lastRunCount(), 0);
        x.addCell(0, 0, 1, 1);
        checks.due("eager: a second definer stops both", x.lastRunCount(), 0);
        checks.due("eager: status(1)", x.status(1), 5);
        x.deleteCell(0);
        checks.due("eager: deleteCell runs the definer that is left and its dependent", x.lastRunCount(), 2);
        checks.due("eager: valueOf(1)", x.valueOf(1), 3);
    }

    private static void refusedCallsChangeNothing() {
        ReactiveNotebook x = new ReactiveNotebook();
        x.addCell(0, 0, 1, 1);
        x.addCell(1, 0, 109, 1);
        x.runStale();
        long total = x.totalRuns();
        x.addCell(-1, 0, 0, 0);
        x.editCell(2, 0, 0, 0, 0);
        x.deleteCell(2);
        x.moveCell(0, 2);
        x.setEager(2);
        x.runCell(2);
        checks.due("refused: runCell of a static error", x.runCell(1), REJECTED);
        checks.due("refused: lastRunCount() is kept", x.lastRunCount(), 1);
        checks.due("refused: lastRun(0) is kept", x.lastRun(0), 0);
        checks.due("refused: totalRuns()", x.totalRuns(), total);
        checks.due("refused: errorCount(0)", x.errorCount(0), 6);
        checks.due("refused: errorCount(1)", x.errorCount(1), 1);
        checks.due("refused: the stack holds the three that succeeded", x.undo(), 2);
    }
}
