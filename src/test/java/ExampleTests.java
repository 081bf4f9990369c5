/** The five examples of the document's Terms, and the constants of its face. */
final class ExampleTests {
    private static final Checks checks = new Checks("ExampleTests");

    public static void main(String[] args) {
        editedCell();
        cycle();
        divisionByZero();
        twoDefiners();
        errorsAndEagerMode();
        constants();
        checks.finish();
    }

    private static void editedCell() {
        ReactiveNotebook x = new ReactiveNotebook();
        checks.due("example 1: addCell(0, 0, 3, 4)", x.addCell(0, 0, 3, 4), 0);
        checks.due("example 1: addCell(1, 2, 100, 2)", x.addCell(1, 2, 100, 2), 1);
        checks.due("example 1: status(1)", x.status(1), 1);
        checks.due("example 1: runStale()", x.runStale(), 2);
        checks.due("example 1: value(1)", x.value(1), 14);
        checks.due("example 1: editCell(0, 0, 0, 4, 3)", x.editCell(0, 0, 0, 4, 3), 0);
        checks.due("example 1: status(1)", x.status(1), 1);
        checks.due("example 1: runStale()", x.runStale(), 2);
        checks.due("example 1: lastRun(0)", x.lastRun(0), 0);
        checks.due("example 1: status(1)", x.status(1), 0);
        checks.due("example 1: totalRuns()", x.totalRuns(), 4);
    }

    private static void cycle() {
        ReactiveNotebook x = new ReactiveNotebook();
        checks.due("example 2: addCell(0, 0, 101, 1)", x.addCell(0, 0, 101, 1), 0);
        checks.due("example 2: addCell(1, 0, 100, 1)", x.addCell(1, 0, 100, 1), 1);
        checks.due("example 2: status(0)", x.status(0), 3);
        checks.due("example 2: runCell(0)", x.runCell(0), -10003);
        checks.due("example 2: errorCount(1)", x.errorCount(1), 1);
        checks.due("example 2: editCell(1, 1, 0, 7, 0)", x.editCell(1, 1, 0, 7, 0), 1);
        checks.due("example 2: runStale()", x.runStale(), 2);
        checks.due("example 2: value(0)", x.value(0), 8);
    }

    private static void divisionByZero() {
        ReactiveNotebook x = new ReactiveNotebook();
        checks.due("example 3: addCell(0, 0, 5, 0)", x.addCell(0, 0, 5, 0), 0);
        checks.due("example 3: addCell(1, 3, 9, 100)", x.addCell(1, 3, 9, 100), 1);
        checks.due("example 3: runStale()", x.runStale(), 2);
        checks.due("example 3: value(1)", x.value(1), 1);
        checks.due("example 3: editCell(0, 0, 0, 0, 0)", x.editCell(0, 0, 0, 0, 0), 0);
        checks.due("example 3: runStale()", x.runStale(), 2);
        checks.due("example 3: status(1)", x.status(1), 7);
        checks.due("example 3: value(1)", x.value(1), -10001);
    }

    private static void twoDefiners() {
        ReactiveNotebook x = new ReactiveNotebook();
        checks.due("example 4: addCell(0, 0, 1, 1)", x.addCell(0, 0, 1, 1), 0);
        checks.due("example 4: addCell(0, 0, 2, 2)", x.addCell(0, 0, 2, 2), 1);
        checks.due("example 4: status(0)", x.status(0), 2);
        checks.due("example 4: valueOf(0)", x.valueOf(0), -10001);
        checks.due("example 4: deleteCell(1)", x.deleteCell(1), 1);
        checks.due("example 4: runStale()", x.runStale(), 1);
        checks.due("example 4: valueOf(0)", x.valueOf(0), 2);
        checks.due("example 4: undo()", x.undo(), 3);
        checks.due("example 4: undo()", x.undo(), 2);
        checks.due("example 4: status(0)", x.status(0), 2);
    }

    private static void errorsAndEagerMode() {
        ReactiveNotebook x = new ReactiveNotebook();
        checks.due("example 5: addCell(0, 9, 0, 0)", x.addCell(0, 9, 0, 0), -10002);
        checks.due("example 5: errorCount(0)", x.errorCount(0), 1);
        checks.due("example 5: setEager(1)", x.setEager(1), 0);
        checks.due("example 5: addCell(0, 0, 100, 1)", x.addCell(0, 0, 100, 1), 0);
        checks.due("example 5: status(0)", x.status(0), 3);
        checks.due("example 5: addCell(1, 0, 109, 0)", x.addCell(1, 0, 109, 0), 1);
        checks.due("example 5: status(1)", x.status(1), 4);
        checks.due("example 5: lastRunCount()", x.lastRunCount(), 0);
    }

    private static void constants() {
        checks.due("NONE", ReactiveNotebook.NONE, -10001);
        checks.due("INVALID", ReactiveNotebook.INVALID, -10002);
        checks.due("REJECTED", ReactiveNotebook.REJECTED, -10003);
        checks.due("FULL", ReactiveNotebook.FULL, -10004);
        checks.due("FRESH", ReactiveNotebook.FRESH, 0);
        checks.due("STALE", ReactiveNotebook.STALE, 1);
        checks.due("MULTIPLE", ReactiveNotebook.MULTIPLE, 2);
        checks.due("CYCLE", ReactiveNotebook.CYCLE, 3);
        checks.due("UNDEFINED", ReactiveNotebook.UNDEFINED, 4);
        checks.due("BAD_INPUT", ReactiveNotebook.BAD_INPUT, 5);
        checks.due("OVERFLOW", ReactiveNotebook.OVERFLOW, 6);
        checks.due("ZERO_DIVISION", ReactiveNotebook.ZERO_DIVISION, 7);
    }
}
