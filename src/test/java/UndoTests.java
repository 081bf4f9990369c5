/** Promises 25 to 27: undo, the error counters and the digest. */
final class UndoTests {
    private static final int INVALID = -10002, REJECTED = -10003;
    private static final Checks checks = new Checks("UndoTests");

    public static void main(String[] args) {
        emptyStack();
        fourStatesAreKept();
        everyUndoableCallIsUndone();
        undoBringsResultsAndVersionsBack();
        undoBringsRecordedVersionsBack();
        undoBringsTheModeBack();
        undoKeepsErrorCounters();
        savedStatesStandApart();
        errorCount();
        digestOfTheEmptyNotebook();
        digestOfAFullState();
        digestChangesNothing();
        checks.finish();
    }

    private static void emptyStack() {
        ReactiveNotebook x = new ReactiveNotebook();
        checks.due("25: empty", x.undo(), REJECTED);
        checks.due("25: errorCount(1)", x.errorCount(1), 1);
        x.addCell(0, 0, 1, 1);
        checks.due("25: one", x.undo(), 0);
        checks.due("25: cellCount()", x.cellCount(), 0);
        checks.due("25: empty again: undo() is not undoable", x.undo(), REJECTED);
    }

    private static void fourStatesAreKept() {
        ReactiveNotebook x = new ReactiveNotebook();
        for (int i = 0; i < 9; i++) {
            x.addCell(i, 0, 1, 1);
        }
        for (int left = 3; left >= 0; left--) {
            checks.due("25: states left", x.undo(), left);
            checks.due("25: cellCount()", x.cellCount(), 5 + left);
        }
        checks.due("25: older ones are dropped", x.undo(), REJECTED);
        checks.due("25: cellCount()", x.cellCount(), 5);
        x.addCell(9, 0, 1, 1);
        x.deleteCell(0);
        checks.due("25: the stack is used again", x.undo(), 1);
        checks.due("25: the stack is used again", x.undo(), 0);
        checks.due("25: variable(0)", x.variable(0), 0);
    }

    private static void everyUndoableCallIsUndone() {
        for (int call = 0; call < 7; call++) {
            ReactiveNotebook x = new ReactiveNotebook();
            x.addCell(0, 0, 1, 2);
            x.addCell(1, 2, 100, 3);
            x.runCell(0);
            long before = x.digest();
            undoable(x, call);
            checks.holds("25: call " + call + " shows in the digest", x.digest() != before);
            checks.due("25: call " + call + " was saved", x.undo(), 3);
            checks.due("25: call " + call + " is undone", x.digest(), before);
        }
    }

    private static void undoable(ReactiveNotebook x, int call) {
        switch (call) {
            case 0 -> x.addCell(7, 0, 1, 1);
            case 1 -> x.editCell(0, 7, 0, 1, 1);
            case 2 -> x.deleteCell(0);
            case 3 -> x.moveCell(0, 1);
            case 4 -> x.setEager(1);
            case 5 -> x.runStale();
            default -> x.runCell(1);
        }
    }

    private static void undoBringsResultsAndVersionsBack() {
        ReactiveNotebook x = new ReactiveNotebook();
        x.addCell(0, 0, 1, 1);
        x.addCell(1, 0, 100, 1);
        x.runStale();
        x.editCell(0, 0, 0, 4, 4);
        x.runStale();
        checks.due("25: version(1) before", x.version(1), 4);
        x.undo();
        checks.due("25: the edited cell has no result again", x.version(0), 0);
        checks.due("25: version(1)", x.version(1), 2);
        checks.due("25: runs(1)", x.runs(1), 1);
        checks.due("25: totalRuns()", x.totalRuns(), 2);
        x.undo();
        checks.due("25: value(0)", x.value(0), 2);
        checks.due("25: value(1) is fresh by its recorded version", x.value(1), 3);
        checks.due("25: lastRunCount()", x.lastRunCount(), 2);
        checks.due("25: lastRun(1)", x.lastRun(1), 1);
        x.addCell(2, 0, 1, 1);
        x.runStale();
        checks.due("25: the greatest version is restored too", x.version(2), 3);
    }

    /** After undo() a cell is fresh or stale by the versions that it had recorded then, on either side. */
    private static void undoBringsRecordedVersionsBack() {
        for (int side = 0; side < 2; side++) {
            ReactiveNotebook x = new ReactiveNotebook();
            x.addCell(0, 0, 1, 1);
            x.addCell(1, 4, side == 0 ? 100 : 50, side == 0 ? 50 : 100);
            x.runStale();
            x.editCell(0, 0, 0, 2, 2);
            x.runStale();
            checks.due("25: version(1) before", x.version(1), 2);
            x.undo();
            x.undo();
            checks.due("25: fresh by the recorded version", x.status(1), 0);
            checks.due("25: nothing is to be run", x.runStale(), 0);
            x.editCell(0, 0, 0, 2, 2);
            x.runCell(0);
            checks.due("25: stale by the recorded version", x.status(1), 1);
            x.runStale();
            x.undo();
            checks.due("25: stale by it again", x.status(1), 1);
        }
    }

    private static void undoBringsTheModeBack() {
        ReactiveNotebook x = new ReactiveNotebook();
        x.addCell(0, 0, 1, 1);
        x.setEager(1);
        x.undo();
        checks.due("25: not run any more", x.status(0), 1);
        checks.due("25: undo() itself runs nothing", x.totalRuns(), 0);
        x.addCell(1, 0, 1, 1);
        checks.due("25: the mode is not eager", x.status(1), 1);
        x.setEager(1);
        x.setEager(0);
        x.undo();
        x.addCell(2, 0, 1, 1);
        checks.due("25: the mode is eager", x.status(2), 0);
    }

    private static void undoKeepsErrorCounters() {
        ReactiveNotebook x = new ReactiveNotebook();
        x.addCell(0, 0, 100, 1);
        x.addCell(10, 0, 0, 0);
        x.runCell(0);
        x.undo();
        checks.due("25: errorCount(0)", x.errorCount(0), 1);
        checks.due("25: errorCount(1)", x.errorCount(1), 1);
    }

    private static void savedStatesStandApart() {
        ReactiveNotebook x = new ReactiveNotebook();
        for (int i = 0; i < 6; i++) {
            x.addCell(0, 0, i, 0);
        }
        x.moveCell(5, 0);
        x.deleteCell(3);
        x.editCell(0, 1, 0, 77, 0);
        x.moveCell(0, 4);
        x.undo();
        x.undo();
        x.undo();
        x.undo();
        checks.due("25: cellCount()", x.cellCount(), 6);
        for (int i = 0; i < 6; i++) {
            checks.due("25: variable()", x.variable(i), 0);
        }
        x.editCell(5, 9, 0, 1, 1);
        x.undo();
        checks.due("25: an edit after undo() does not reach the saved state", x.variable(5), 0);
    }

    private static void errorCount() {
        ReactiveNotebook x = new ReactiveNotebook();
        checks.due("26: kind -1", x.errorCount(-1), INVALID);
        checks.due("26: kind 3", x.errorCount(3), INVALID);
        checks.due("26: kind MIN", x.errorCount(Integer.MIN_VALUE), INVALID);
        checks.due("26: kind MAX", x.errorCount(Integer.MAX_VALUE), INVALID);
        checks.due("26: they are counted, too", x.errorCount(0), 4);
        x.undo();
        x.undo();
        checks.due("26: REJECTED", x.errorCount(1), 2);
        for (int i = 0; i < 15; i++) {
            x.addCell(0, 0, 0, 0);
        }
        checks.due("26: FULL", x.errorCount(2), 3);
        x.lastRun(0);
        x.valueOf(0);
        x.runOrder(99);
        checks.due("26: NONE is no error", x.errorCount(0) + x.errorCount(1) + x.errorCount(2), 9);
    }

    private static long hash(long... values) {
        long h = 11872;
        for (long v : values) {
            h = 31 * h + v;
        }
        return h;
    }

    private static void digestOfTheEmptyNotebook() {
        ReactiveNotebook x = new ReactiveNotebook();
        checks.due("27: a new object", x.digest(), hash(0, 0, 0, 0, 0, 0, 0, 0, 0));
    }

    private static void digestOfAFullState() {
        ReactiveNotebook x = new ReactiveNotebook();
        x.addCell(1, 2, 100, 2);
        x.addCell(0, 0, 3, 4);
        x.addCell(4, 3, 101, 0);
        x.setEager(1);
        x.addCell(5, 5, 104, 9);
        x.addCell(6, 1, 106, 109);
        x.editCell(1, 0, 0, 5, 4);
        x.undo();
        x.editCell(1, 0, 1, 5, 9);
        x.undo();
        x.undo();
        x.addCell(10, 0, 0, 0);
        x.addCell(0, 6, 0, 0);
        x.runCell(4);
        x.moveCell(0, 1);
        x.editCell(0, 0, 0, 6, 7);
        checks.due("27: cells, runs and errors", x.digest(), hash(
            3, 0, 0, 4, 1, 7, 3, 0, 1, 2,
            4,
            0, 0, 6, 7, 0, 13, 5, 2, 0, 14,
            1, 2, 100, 2, 0, 26, 6, 2, 1, 12,
            4, 3, 101, 0, 7, -10001, 3, 2, 2, 8,
            5, 5, 104, 9, 5, -10001, 4, 1, 4, 0,
            4, 0, 1, 2, 3));
    }

    private static void digestChangesNothing() {
        ReactiveNotebook x = new ReactiveNotebook();
        x.addCell(0, 0, 100, 1);
        x.addCell(1, 0, 1, 1);
        x.runStale();
        long first = x.digest();
        checks.due("27: asked twice", x.digest(), first);
        checks.due("27: no error is counted", x.errorCount(0), 0);
        x.valueOf(10);
        checks.holds("27: an error shows in it", x.digest() != first);
    }
}
