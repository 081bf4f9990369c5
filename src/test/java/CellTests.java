/** Promises 11 to 18: what is told of the cells. */
final class CellTests {
    private static final int NONE = -10001, INVALID = -10002;
    private static final int FRESH = 0, STALE = 1, MULTIPLE = 2, CYCLE = 3, UNDEFINED = 4, BAD_INPUT = 5;
    private static final int[] NO_CELLS = {-1, 3, 12, 32, Integer.MIN_VALUE, Integer.MAX_VALUE};
    private static final Checks checks = new Checks("CellTests");

    public static void main(String[] args) {
        cellCount();
        variable();
        status();
        firstStaticErrorCounts();
        badInputSpreads();
        value();
        valueOf();
        version();
        runs();
        totalRuns();
        noSuchCell();
        checks.finish();
    }

    private static void cellCount() {
        ReactiveNotebook x = new ReactiveNotebook();
        for (int i = 0; i < 12; i++) {
            checks.due("11: cellCount()", x.cellCount(), i);
            x.addCell(0, 0, 0, 0);
        }
        checks.due("11: cellCount()", x.cellCount(), 12);
        x.deleteCell(11);
        checks.due("11: cellCount()", x.cellCount(), 11);
    }

    private static void variable() {
        ReactiveNotebook x = new ReactiveNotebook();
        for (int i = 0; i < 10; i++) {
            x.addCell(9 - i, 0, 0, 0);
            checks.due("12: variable(" + i + ")", x.variable(i), 9 - i);
        }
    }

    private static void status() {
        ReactiveNotebook x = new ReactiveNotebook();
        x.addCell(0, 0, 1, 1);
        checks.due("13: a new cell", x.status(0), STALE);
        x.runStale();
        checks.due("13: a cell that was run", x.status(0), FRESH);
        x.addCell(1, 0, 102, 1);
        checks.due("13: no cell defines variable 2", x.status(1), UNDEFINED);
        x.addCell(3, 0, 1, 102);
        checks.due("13: as the right operand", x.status(2), UNDEFINED);
        x.addCell(2, 0, 101, 1);
        checks.due("13: cells 1 and 3 depend on each other", x.status(1), CYCLE);
        checks.due("13: cells 1 and 3 depend on each other", x.status(3), CYCLE);
        checks.due("13: behind a cycle", x.status(2), BAD_INPUT);
        x.addCell(2, 0, 1, 1);
        checks.due("13: a second definer breaks the cycle", x.status(1), BAD_INPUT);
        checks.due("13: both definers", x.status(3), MULTIPLE);
        checks.due("13: both definers", x.status(4), MULTIPLE);
        checks.due("13: a user of both", x.status(2), BAD_INPUT);
        checks.due("13: one that has nothing to do with it", x.status(0), FRESH);
    }

    private static void firstStaticErrorCounts() {
        ReactiveNotebook x = new ReactiveNotebook();
        x.addCell(0, 0, 109, 100);
        checks.due("13: CYCLE before UNDEFINED", x.status(0), CYCLE);
        x.addCell(0, 0, 109, 1);
        checks.due("13: MULTIPLE before all", x.status(0), MULTIPLE);
        checks.due("13: MULTIPLE before UNDEFINED", x.status(1), MULTIPLE);
        x.addCell(1, 0, 100, 109);
        checks.due("13: UNDEFINED before BAD_INPUT", x.status(2), UNDEFINED);
        x.addCell(2, 0, 101, 103);
        x.addCell(3, 0, 102, 101);
        checks.due("13: CYCLE before BAD_INPUT", x.status(3), CYCLE);
        checks.due("13: CYCLE before BAD_INPUT", x.status(4), CYCLE);
    }

    private static void badInputSpreads() {
        ReactiveNotebook x = new ReactiveNotebook();
        for (int variable = 9; variable > 0; variable--) {
            x.addCell(variable, 0, 99 + variable, 1);
        }
        checks.due("13: the end of the chain", x.status(8), UNDEFINED);
        for (int cell = 0; cell < 8; cell++) {
            checks.due("13: BAD_INPUT goes up the chain to cell " + cell, x.status(cell), BAD_INPUT);
        }
        for (int cell = 0; cell < 4; cell++) {
            x.moveCell(cell, 8 - cell);
            x.moveCell(7 - cell, cell);
        }
        checks.due("13: and down it", x.status(0), UNDEFINED);
        checks.due("13: and down it", x.status(8), BAD_INPUT);
        x.addCell(0, 0, 1, 1);
        for (int cell = 0; cell < 10; cell++) {
            checks.due("13: no error is left", x.status(cell), STALE);
        }
    }

    private static void value() {
        ReactiveNotebook x = new ReactiveNotebook();
        x.addCell(0, 1, 1, 5);
        checks.due("14: a stale cell", x.value(0), NONE);
        x.runStale();
        checks.due("14: a fresh cell", x.value(0), -4);
        x.addCell(0, 1, 1, 5);
        checks.due("14: a static error", x.value(0), NONE);
        x.deleteCell(1);
        checks.due("14: the result was kept", x.value(0), -4);
        x.editCell(0, 0, 3, 1, 0);
        x.runStale();
        checks.due("14: an error", x.value(0), NONE);
        x.editCell(0, 0, 0, 0, 0);
        x.runStale();
        checks.due("14: 0 is a value", x.value(0), 0);
    }

    private static void valueOf() {
        ReactiveNotebook x = new ReactiveNotebook();
        for (int wrong : new int[] {-1, 10, 100, Integer.MIN_VALUE, Integer.MAX_VALUE}) {
            checks.due("15: out of range", x.valueOf(wrong), INVALID);
        }
        checks.due("15: errorCount(0)", x.errorCount(0), 5);
        checks.due("15: no definer", x.valueOf(9), NONE);
        x.addCell(9, 0, 4, 3);
        checks.due("15: a stale definer", x.valueOf(9), NONE);
        x.runStale();
        checks.due("15: one definer", x.valueOf(9), 7);
        checks.due("15: another variable", x.valueOf(0), NONE);
        x.addCell(9, 0, 4, 3);
        checks.due("15: two definers", x.valueOf(9), NONE);
        x.addCell(9, 0, 4, 3);
        checks.due("15: three definers", x.valueOf(9), NONE);
    }

    private static void version() {
        ReactiveNotebook x = new ReactiveNotebook();
        x.addCell(0, 0, 1, 1);
        x.addCell(1, 0, 100, 1);
        checks.due("16: no result", x.version(1), 0);
        x.runStale();
        checks.due("16: a result", x.version(1), 2);
        x.editCell(0, 0, 0, 2, 1);
        checks.due("16: an edited cell has none", x.version(0), 0);
        checks.due("16: a stale cell has its old one", x.version(1), 2);
        x.editCell(0, 0, 0, 109, 1);
        checks.due("16: a cell with a static error has its old one", x.version(1), 2);
    }

    private static void runs() {
        ReactiveNotebook x = new ReactiveNotebook();
        x.addCell(0, 0, 1, 1);
        x.addCell(1, 0, 1, 1);
        checks.due("17: none", x.runs(0), 0);
        x.runCell(0);
        x.editCell(0, 0, 0, 2, 1);
        checks.due("17: editing keeps the number", x.runs(0), 1);
        x.runStale();
        checks.due("17: two", x.runs(0), 2);
        checks.due("17: one", x.runs(1), 1);
        x.moveCell(0, 1);
        checks.due("17: the number goes with the cell", x.runs(1), 2);
        x.runStale();
        checks.due("17: a fresh cell is not run", x.runs(1), 2);
    }

    private static void totalRuns() {
        ReactiveNotebook x = new ReactiveNotebook();
        x.addCell(0, 0, 1, 1);
        x.addCell(1, 0, 1, 1);
        x.runStale();
        x.deleteCell(0);
        checks.due("18: deleted cells count", x.totalRuns(), 2);
        x.addCell(0, 0, 101, 1);
        x.runCell(1);
        checks.due("18: totalRuns()", x.totalRuns(), 3);
        x.undo();
        checks.due("18: undo() brings the number back", x.totalRuns(), 2);
    }

    private static void noSuchCell() {
        ReactiveNotebook x = new ReactiveNotebook();
        x.addCell(0, 0, 1, 1);
        x.addCell(1, 0, 100, 1);
        x.addCell(2, 0, 101, 1);
        int counted = 0;
        for (int cell : NO_CELLS) {
            checks.due("12: variable(" + cell + ")", x.variable(cell), INVALID);
            checks.due("13: status(" + cell + ")", x.status(cell), INVALID);
            checks.due("14: value(" + cell + ")", x.value(cell), INVALID);
            checks.due("16: version(" + cell + ")", x.version(cell), INVALID);
            checks.due("17: runs(" + cell + ")", x.runs(cell), INVALID);
            checks.due("19: dependencies(" + cell + ")", x.dependencies(cell), INVALID);
            checks.due("20: dependents(" + cell + ")", x.dependents(cell), INVALID);
            counted += 7;
            checks.due("26: each was counted", x.errorCount(0), counted);
        }
    }
}
