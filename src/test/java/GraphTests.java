/** Promises 19 to 24: the dependency graph and the run order. */
final class GraphTests {
    private static final int NONE = -10001, INVALID = -10002;
    private static final Checks checks = new Checks("GraphTests");

    public static void main(String[] args) {
        dependencies();
        dependents();
        dependentsOnCycles();
        definers();
        runOrder();
        runOrderTakesTheLowestThatIsReady();
        staleCount();
        checks.finish();
    }

    private static void dependencies() {
        ReactiveNotebook x = new ReactiveNotebook();
        x.addCell(0, 0, 1, 1);
        x.addCell(1, 0, 100, 100);
        x.addCell(2, 0, 101, 100);
        x.addCell(3, 0, 103, 109);
        checks.due("19: constants", x.dependencies(0), 0);
        checks.due("19: one variable twice", x.dependencies(1), 1);
        checks.due("19: two variables, direct ones alone", x.dependencies(2), 3);
        checks.due("19: itself, but no undefined variable", x.dependencies(3), 8);
        x.addCell(0, 0, 102, 1);
        checks.due("19: a variable with two definers", x.dependencies(2), 2);
        checks.due("19: a MULTIPLE cell has dependencies itself", x.dependencies(4), 4);
        x.moveCell(4, 0);
        checks.due("19: after a move", x.dependencies(0), 8);
    }

    private static void dependents() {
        ReactiveNotebook x = new ReactiveNotebook();
        for (int i = 0; i < 10; i++) {
            x.addCell(i, 0, i == 0 ? 1 : 99 + i, 1);
        }
        checks.due("20: the whole chain", x.dependents(0), 1022);
        checks.due("20: the end of it", x.dependents(9), 0);
        checks.due("20: the middle of it", x.dependents(5), 960);
        x.addCell(5, 0, 1, 1);
        checks.due("20: cut by a second definer", x.dependents(0), 62);
        checks.due("20: a MULTIPLE cell has none", x.dependents(5), 0);
        checks.due("20: behind the cut", x.dependents(6), 896);
        x.deleteCell(10);
        x.deleteCell(9);
        checks.due("20: a deleted cell is no dependent", x.dependents(8), 0);
        checks.due("20: nor is it one of the whole chain", x.dependents(0), 510);
    }

    private static void dependentsOnCycles() {
        ReactiveNotebook x = new ReactiveNotebook();
        x.addCell(0, 0, 102, 1);
        x.addCell(1, 0, 100, 1);
        x.addCell(2, 0, 101, 103);
        x.addCell(3, 0, 1, 1);
        x.addCell(4, 0, 102, 1);
        x.addCell(5, 0, 105, 1);
        checks.due("20: a cell on a cycle is among its own", x.dependents(0), 23);
        checks.due("20: the cell before the cycle is not", x.dependents(3), 23);
        checks.due("20: nor is the one behind it", x.dependents(4), 0);
        checks.due("20: a cell that uses its own variable", x.dependents(5), 32);
        checks.due("13: on the cycle", x.status(2), 3);
        checks.due("13: before it", x.status(3), 1);
        checks.due("13: behind it", x.status(4), 5);
    }

    private static void definers() {
        ReactiveNotebook x = new ReactiveNotebook();
        for (int wrong : new int[] {-1, 10, 100, Integer.MIN_VALUE, Integer.MAX_VALUE}) {
            checks.due("21: out of range", x.definers(wrong), INVALID);
        }
        checks.due("21: errorCount(0)", x.errorCount(0), 5);
        for (int i = 0; i < 12; i++) {
            x.addCell(i % 3 == 0 ? 9 : 0, 0, 1, 1);
        }
        checks.due("21: definers(9)", x.definers(9), 585);
        checks.due("21: definers(0)", x.definers(0), 3510);
        checks.due("21: definers(1)", x.definers(1), 0);
        x.deleteCell(0);
        checks.due("21: after a deletion", x.definers(9), 292);
        x.editCell(0, 1, 0, 1, 1);
        checks.due("21: after an edit", x.definers(1), 1);
    }

    private static void runOrder() {
        ReactiveNotebook x = new ReactiveNotebook();
        checks.due("22: an empty notebook", x.runnableCount(), 0);
        checks.due("23: an empty notebook", x.runOrder(0), NONE);
        x.addCell(2, 0, 101, 1);
        x.addCell(1, 0, 100, 1);
        x.addCell(5, 0, 109, 1);
        x.addCell(0, 0, 1, 1);
        checks.due("22: without the static error", x.runnableCount(), 3);
        checks.due("23: runOrder(0)", x.runOrder(0), 3);
        checks.due("23: runOrder(1)", x.runOrder(1), 1);
        checks.due("23: runOrder(2)", x.runOrder(2), 0);
        checks.due("23: runOrder(3)", x.runOrder(3), NONE);
        checks.due("23: far above", x.runOrder(Integer.MAX_VALUE), NONE);
        checks.due("23: negative", x.runOrder(-1), INVALID);
        checks.due("23: negative", x.runOrder(Integer.MIN_VALUE), INVALID);
        checks.due("23: errorCount(0)", x.errorCount(0), 2);
        x.runStale();
        checks.due("22: running changes nothing", x.runnableCount(), 3);
        checks.due("23: running changes nothing", x.runOrder(0), 3);
    }

    private static void runOrderTakesTheLowestThatIsReady() {
        ReactiveNotebook x = new ReactiveNotebook();
        x.addCell(0, 0, 103, 1);
        x.addCell(1, 0, 1, 1);
        x.addCell(2, 0, 101, 1);
        x.addCell(3, 0, 1, 1);
        x.addCell(4, 0, 1, 1);
        int[] order = {1, 2, 3, 0, 4};
        for (int i = 0; i < order.length; i++) {
            checks.due("23: runOrder(" + i + ")", x.runOrder(i), order[i]);
        }
        x.runStale();
        for (int i = 0; i < order.length; i++) {
            checks.due("10: lastRun(" + i + ")", x.lastRun(i), order[i]);
        }
    }

    private static void staleCount() {
        ReactiveNotebook x = new ReactiveNotebook();
        x.addCell(0, 0, 1, 1);
        x.addCell(1, 0, 100, 1);
        x.addCell(2, 0, 109, 1);
        x.addCell(3, 3, 1, 0);
        checks.due("24: all runnable cells", x.staleCount(), 3);
        x.runCell(1);
        checks.due("24: one is left", x.staleCount(), 1);
        x.runStale();
        checks.due("24: an error is fresh too", x.staleCount(), 0);
        x.addCell(9, 0, 1, 1);
        checks.due("24: the new cell and the one that it makes runnable", x.staleCount(), 2);
        x.editCell(0, 0, 0, 109, 1);
        checks.due("24: and an edited one with its dependent", x.staleCount(), 4);
    }
}
