/**
 * The boundary cases that the document names of dependencies, static errors and the run order, and of promises 13 and
 * 19 to 24.
 */
final class BoundaryGraphTests {
    private static final int NONE = -10001, INVALID = -10002;
    private static final int FRESH = 0, STALE = 1;
    private static final int MULTIPLE = 2, CYCLE = 3, UNDEFINED = 4, BAD_INPUT = 5;
    private static final int OVERFLOW = 6, ZERO_DIVISION = 7;
    private static final int ADD = 0, MAXIMUM = 4;
    private static final int MIN = Integer.MIN_VALUE, MAX = Integer.MAX_VALUE;
    private static final int[] FAR_CELLS = {-1, 12, 32, MIN, MAX};
    private static final Checks checks = new Checks("BoundaryGraphTests");

    public static void main(String[] args) {
        usesItsOperands();
        dependsOnExactlyOneDefiner();
        dependsOnItself();
        firstStaticErrorThatHolds();
        multiple();
        cycle();
        undefined();
        badInputOfEachKind();
        badInputAlongTheLongestChain();
        badInputOfElevenCells();
        runnableWithoutStaticError();
        runnableDependsOnRunnable();
        runOrderOfNone();
        runOrderOfAllCells();
        runOrderTakesTheLowestIndex();
        runOrderWaitsForAllDependencies();
        statusOfEachKind();
        statusRefused();
        dependenciesMask();
        dependenciesRefused();
        dependentsMask();
        dependentsThroughTheLastCells();
        dependentsContainTheCellOnACycle();
        dependentsRefused();
        definersMask();
        definersWithStaticErrors();
        definersRefused();
        runnableCount();
        runnableCountRange();
        runOrderIndex();
        staleCount();
        checks.finish();
    }

    // ---- Terms, DEPENDENCIES AND STATIC ERRORS

    private static void usesItsOperands() {
        checks.sentence("DEPENDENCIES AND STATIC ERRORS", "A cell uses the variables that occur as its operands.");
        ReactiveNotebook x = Notebooks.constants(3);
        x.editCell(2, 2, ADD, 0, 99);
        checks.due("none", x.dependencies(2), 0);
        x.editCell(2, 2, ADD, 99, 100);
        checks.due("one on the right", x.dependencies(2), 1);
        x.editCell(2, 2, ADD, 101, 99);
        checks.due("one on the left", x.dependencies(2), 2);
        x.editCell(2, 2, ADD, 101, 101);
        checks.due("one twice", x.dependencies(2), 2);
        x.editCell(2, 2, ADD, 101, 100);
        checks.due("two", x.dependencies(2), 3);
        x.editCell(2, 2, Notebooks.MULTIPLY, 0, 100);
        checks.due("also one that cannot change the result", x.dependencies(2), 1);
    }

    private static void dependsOnExactlyOneDefiner() {
        checks.sentence("DEPENDENCIES AND STATIC ERRORS",
            "If a cell c uses a variable that is defined by exactly one cell d, then c depends on d.");
        ReactiveNotebook x = new ReactiveNotebook();
        x.addCell(9, ADD, 100, 100);
        checks.due("no definer", x.dependencies(0), 0);
        x.addCell(0, ADD, 1, 1);
        checks.due("one definer", x.dependencies(0), 2);
        checks.due("one definer: its dependents", x.dependents(1), 1);
        for (int definers = 2; definers <= 11; definers++) {
            x.addCell(0, ADD, 1, 1);
            checks.due(definers + " definers", x.dependencies(0), 0);
            checks.due(definers + " definers: dependents of the first", x.dependents(1), 0);
            checks.due(definers + " definers: dependents of the last", x.dependents(definers), 0);
        }
        for (int definers = 10; definers >= 2; definers--) {
            x.deleteCell(1);
            checks.due("again " + definers + " definers", x.dependencies(0), 0);
        }
        x.deleteCell(1);
        checks.due("again one definer", x.dependencies(0), 2);
        x.deleteCell(1);
        checks.due("again none", x.dependencies(0), 0);
    }

    private static void dependsOnItself() {
        checks.sentence("DEPENDENCIES AND STATIC ERRORS", "A cell may depend on itself.");
        for (int cell = 0; cell < 10; cell++) {
            ReactiveNotebook x = Notebooks.constants(10);
            x.editCell(cell, cell, ADD, 1, 100 + cell);
            checks.due("cell " + cell + ": dependencies", x.dependencies(cell), 1 << cell);
            checks.due("cell " + cell + ": dependents", x.dependents(cell), 1 << cell);
            x.editCell(cell, cell, ADD, 100 + cell, 1);
            checks.due("cell " + cell + " on the left: dependencies", x.dependencies(cell), 1 << cell);
        }
        ReactiveNotebook x = Notebooks.rivals(1);
        x.addCell(0, ADD, 100, 100);
        checks.due("not when another cell defines its variable too", x.dependencies(1), 0);
    }

    private static void firstStaticErrorThatHolds() {
        checks.sentence("DEPENDENCIES AND STATIC ERRORS",
            "A cell has a static error if one of the following conditions holds; the first one that holds is its"
            + " static error");
        ReactiveNotebook x = Notebooks.rivals(1);
        x.addCell(0, ADD, 109, 1);
        checks.due("MULTIPLE and UNDEFINED", x.status(1), MULTIPLE);
        x.editCell(1, 0, ADD, 100, 1);
        checks.due("MULTIPLE and BAD_INPUT", x.status(1), MULTIPLE);
        x.editCell(1, 0, ADD, 100, 109);
        checks.due("MULTIPLE, UNDEFINED and BAD_INPUT", x.status(1), MULTIPLE);
        x.addCell(1, ADD, 101, 109);
        checks.due("CYCLE and UNDEFINED", x.status(2), CYCLE);
        x.editCell(2, 1, ADD, 109, 101);
        checks.due("UNDEFINED on the left and CYCLE", x.status(2), CYCLE);
        x.editCell(2, 1, ADD, 101, 100);
        checks.due("CYCLE and BAD_INPUT", x.status(2), CYCLE);
        x.addCell(2, ADD, 109, 101);
        checks.due("UNDEFINED and BAD_INPUT", x.status(3), UNDEFINED);
        x.editCell(3, 2, ADD, 100, 109);
        checks.due("BAD_INPUT on the left and UNDEFINED", x.status(3), UNDEFINED);
    }

    private static void multiple() {
        checks.sentence("DEPENDENCIES AND STATIC ERRORS", "(1) MULTIPLE: another cell defines the same variable.");
        checks.due("no other cell", Notebooks.rivals(1).status(0), STALE);
        for (int cells = 2; cells <= 12; cells++) {
            ReactiveNotebook x = Notebooks.rivals(cells);
            for (int cell = 0; cell < cells; cell++) {
                checks.due("cell " + cell + " of " + cells, x.status(cell), MULTIPLE);
            }
        }
        ReactiveNotebook x = Notebooks.constants(10);
        x.addCell(4, ADD, 1, 1);
        x.addCell(0, ADD, 1, 1);
        checks.due("the first and the last of 12: the first", x.status(0), MULTIPLE);
        checks.due("the first and the last of 12: the last", x.status(11), MULTIPLE);
        checks.due("a cell between them", x.status(1), STALE);
        x.editCell(11, 9, ADD, 1, 1);
        checks.due("another variable now: the first", x.status(0), STALE);
        checks.due("another variable now: the last", x.status(11), MULTIPLE);
        x.editCell(9, 8, ADD, 1, 1);
        checks.due("alone with its variable now", x.status(11), STALE);
    }

    private static void cycle() {
        checks.sentence("DEPENDENCIES AND STATIC ERRORS",
            "(2) CYCLE: the cell lies on a cycle of dependencies (it depends, directly or indirectly, on itself).");
        for (int length = 1; length <= 10; length++) {
            ReactiveNotebook x = Notebooks.chain(length);
            checks.due("a chain of " + length + " is no cycle", x.status(length - 1), STALE);
            x.editCell(0, 0, ADD, 1, 99 + length);
            for (int cell = 0; cell < length; cell++) {
                checks.due("cell " + cell + " of a cycle of " + length, x.status(cell), CYCLE);
            }
            x.editCell(length - 1, length - 1, ADD, 1, 1);
            checks.due("the cycle is broken", x.status(0), STALE);
        }
        ReactiveNotebook x = Notebooks.chain(3);
        x.editCell(1, 1, ADD, 101, 100);
        checks.due("on it", x.status(1), CYCLE);
        checks.due("before it", x.status(0), STALE);
        checks.due("behind it: not on it", x.status(2), BAD_INPUT);
    }

    private static void undefined() {
        checks.sentence("DEPENDENCIES AND STATIC ERRORS", "(3) UNDEFINED: it uses a variable that no cell defines.");
        ReactiveNotebook x = Notebooks.constants(2);
        x.addCell(2, ADD, 100, 109);
        checks.due("on the right", x.status(2), UNDEFINED);
        x.editCell(2, 2, ADD, 109, 100);
        checks.due("on the left", x.status(2), UNDEFINED);
        x.editCell(2, 2, ADD, 109, 109);
        checks.due("on both sides", x.status(2), UNDEFINED);
        x.addCell(9, ADD, 1, 1);
        checks.due("one cell defines it", x.status(2), STALE);
        x.addCell(9, ADD, 1, 1);
        checks.due("two cells define it", x.status(2), BAD_INPUT);
        x.deleteCell(4);
        x.deleteCell(3);
        checks.due("none defines it any more", x.status(2), UNDEFINED);
        x.editCell(2, 2, ADD, 99, 99);
        checks.due("constants are no variables", x.status(2), STALE);
    }

    private static void badInputOfEachKind() {
        checks.sentence("DEPENDENCIES AND STATIC ERRORS",
            "(4) BAD_INPUT: it uses a variable that is defined by a cell with a static error of any kind.");
        ReactiveNotebook x = Notebooks.rivals(2);
        x.addCell(1, ADD, 101, 1);
        x.addCell(2, ADD, 109, 1);
        x.addCell(3, ADD, 100, 1);
        x.addCell(4, ADD, 1, 1);
        x.addCell(5, ADD, 1, 1);
        int[] kinds = {MULTIPLE, CYCLE, UNDEFINED, BAD_INPUT};
        for (int variable = 0; variable < 4; variable++) {
            checks.due("the error of variable " + variable, x.status(variable == 0 ? 0 : variable + 1), kinds[variable]);
            x.editCell(6, 5, ADD, 100 + variable, 104);
            checks.due("used on the left", x.status(6), BAD_INPUT);
            x.editCell(6, 5, ADD, 104, 100 + variable);
            checks.due("used on the right", x.status(6), BAD_INPUT);
            x.editCell(6, 5, ADD, 100 + variable, 100 + variable);
            checks.due("used on both sides", x.status(6), BAD_INPUT);
        }
        x.editCell(6, 5, ADD, 104, 104);
        checks.due("a variable without an error", x.status(6), STALE);
        ReactiveNotebook y = new ReactiveNotebook();
        y.addCell(0, Notebooks.DIVIDE, 1, 0);
        y.addCell(1, ADD, 100, 1);
        y.runStale();
        checks.due("an error that is a result is no static error", y.runnableCount(), 2);
    }

    private static void badInputAlongTheLongestChain() {
        checks.sentence("DEPENDENCIES AND STATIC ERRORS",
            "(4) BAD_INPUT: it uses a variable that is defined by a cell with a static error of any kind.");
        ReactiveNotebook up = Notebooks.chain(9);
        up.editCell(0, 0, ADD, 109, 1);
        ReactiveNotebook down = Notebooks.reversedChain(9);
        down.editCell(8, 8, ADD, 109, 1);
        for (int cell = 1; cell < 9; cell++) {
            checks.due("cell " + cell + " behind the error", up.status(cell), BAD_INPUT);
            checks.due("cell " + (8 - cell) + " behind the error", down.status(8 - cell), BAD_INPUT);
        }
        up.addCell(9, ADD, 108, 1);
        checks.due("the error closed to a cycle of ten", up.status(5), CYCLE);
        up.editCell(9, 9, ADD, 1, 1);
        checks.due("no error is left", up.runnableCount(), 10);
    }

    private static void badInputOfElevenCells() {
        checks.sentence("DEPENDENCIES AND STATIC ERRORS",
            "(4) BAD_INPUT: it uses a variable that is defined by a cell with a static error of any kind.");
        ReactiveNotebook up = Notebooks.chain(10);
        up.editCell(0, 0, ADD, 100, 1);
        ReactiveNotebook down = Notebooks.reversedChain(10);
        down.editCell(9, 9, ADD, 1, 109);
        for (int behind = 1; behind < 10; behind++) {
            checks.due(behind + " cells behind a cycle of one", up.status(behind), BAD_INPUT);
            checks.due(behind + " cells behind it, backwards", down.status(9 - behind), BAD_INPUT);
        }
        down.editCell(9, 9, ADD, 1, 1);
        down.addCell(9, ADD, 1, 1);
        for (int cell = 0; cell < 9; cell++) {
            checks.due("cell " + cell + " before two definers", down.status(cell), BAD_INPUT);
        }
        ReactiveNotebook twelve = Notebooks.rivals(11);
        twelve.addCell(1, ADD, 100, 1);
        checks.due("the last of 12 cells", twelve.status(11), BAD_INPUT);
        twelve.moveCell(11, 0);
        checks.due("the first of 12 cells", twelve.status(0), BAD_INPUT);
    }

    private static void runnableWithoutStaticError() {
        checks.sentence("DEPENDENCIES AND STATIC ERRORS", "A cell without a static error is runnable.");
        ReactiveNotebook x = Notebooks.busy();
        int runnable = 0;
        for (int cell = 0; cell < x.cellCount(); cell++) {
            boolean error = x.status(cell) == MULTIPLE || x.status(cell) == CYCLE || x.status(cell) == UNDEFINED || cell == 4;
            runnable += error ? 0 : 1;
            checks.due("runCell(" + cell + ") is refused", x.runCell(cell) == -10003 ? 1 : 0, error ? 1 : 0);
        }
        checks.due("runnableCount()", x.runnableCount(), runnable);
    }

    private static void runnableDependsOnRunnable() {
        checks.sentence("DEPENDENCIES AND STATIC ERRORS", "A runnable cell depends only on runnable cells.");
        for (Notebooks.Recipe recipe : Notebooks.RECIPES) {
            ReactiveNotebook x = recipe.make();
            int runnable = 0;
            for (int i = 0; i < x.runnableCount(); i++) {
                runnable |= 1 << x.runOrder(i);
            }
            for (int i = 0; i < x.runnableCount(); i++) {
                checks.due("dependencies that are not runnable", x.dependencies(x.runOrder(i)) & ~runnable, 0);
            }
        }
        ReactiveNotebook x = Notebooks.chain(10);
        x.editCell(5, 5, ADD, 105, 1);
        checks.due("the five before the error", x.runnableCount(), 5);
        for (int cell = 6; cell < 10; cell++) {
            checks.due("cell " + cell + " behind it", x.status(cell), BAD_INPUT);
        }
    }

    // ---- Terms, RUN ORDER

    private static void orderIs(ReactiveNotebook x, String what, int... want) {
        checks.due(what + ": runnableCount()", x.runnableCount(), want.length);
        for (int i = 0; i < want.length; i++) {
            checks.due(what + ": runOrder(" + i + ")", x.runOrder(i), want[i]);
        }
        checks.due(what + ": runOrder(" + want.length + ")", x.runOrder(want.length), NONE);
    }

    private static void runOrderOfNone() {
        checks.sentence("RUN ORDER", "The run order is a list of all runnable cells.");
        orderIs(new ReactiveNotebook(), "an empty notebook");
        orderIs(Notebooks.rivals(12), "a full one of MULTIPLE cells");
        ReactiveNotebook x = Notebooks.chain(10);
        x.editCell(0, 0, ADD, 109, 1);
        orderIs(x, "one cycle");
        orderIs(Notebooks.rivals(1), "the only cell", 0);
    }

    private static void runOrderOfAllCells() {
        checks.sentence("RUN ORDER", "The run order is a list of all runnable cells.");
        orderIs(Notebooks.constants(10), "independent cells", 0, 1, 2, 3, 4, 5, 6, 7, 8, 9);
        orderIs(Notebooks.chain(10), "the longest chain", 0, 1, 2, 3, 4, 5, 6, 7, 8, 9);
        orderIs(Notebooks.reversedChain(10), "the longest chain, backwards", 9, 8, 7, 6, 5, 4, 3, 2, 1, 0);
        orderIs(Notebooks.full(), "a full notebook with three rivals", 0, 1, 2, 3, 4, 5, 6, 7, 8);
        ReactiveNotebook x = new ReactiveNotebook();
        for (int i = 0; i < 3; i++) {
            x.addCell(9, ADD, 1, 1);
        }
        for (int i = 0; i < 9; i++) {
            x.addCell(i, ADD, 1, 1);
        }
        orderIs(x, "the last of a full notebook", 3, 4, 5, 6, 7, 8, 9, 10, 11);
    }

    private static void runOrderTakesTheLowestIndex() {
        checks.sentence("RUN ORDER", "appending the runnable cell with the lowest index that is not in the list yet");
        ReactiveNotebook x = new ReactiveNotebook();
        x.addCell(0, ADD, 102, 1);
        x.addCell(1, ADD, 100, 1);
        x.addCell(2, ADD, 1, 1);
        x.addCell(3, ADD, 1, 1);
        x.addCell(4, ADD, 103, 101);
        orderIs(x, "a cell that becomes ready goes before a later one", 2, 0, 1, 3, 4);
        x.moveCell(3, 0);
        orderIs(x, "after moveCell(3, 0)", 0, 3, 1, 2, 4);
        x.moveCell(3, 4);
        orderIs(x, "after moveCell(3, 4)", 0, 4, 1, 2, 3);
    }

    private static void runOrderWaitsForAllDependencies() {
        checks.sentence("RUN ORDER", "and all of whose dependencies are in the list.");
        ReactiveNotebook x = new ReactiveNotebook();
        x.addCell(0, ADD, 101, 102);
        x.addCell(1, ADD, 1, 1);
        x.addCell(2, ADD, 1, 1);
        orderIs(x, "both", 1, 2, 0);
        x.editCell(0, 0, ADD, 102, 101);
        orderIs(x, "the other way round", 1, 2, 0);
        x.editCell(0, 0, ADD, 101, 101);
        orderIs(x, "one of them twice", 1, 0, 2);
        x.editCell(0, 0, ADD, 1, 1);
        orderIs(x, "none", 0, 1, 2);
    }

    // ---- Promise 13

    private static void statusOfEachKind() {
        checks.sentence("Promise 13", "Returns the status of a cell: its static error (MULTIPLE, CYCLE, UNDEFINED or BAD_INPUT)"
            + " if it has one; otherwise STALE if it is stale; otherwise FRESH if its result is a value, or the error"
            + " that is its result.");
        ReactiveNotebook x = Notebooks.busy();
        int[] want = {MULTIPLE, MULTIPLE, CYCLE, UNDEFINED, BAD_INPUT, FRESH, OVERFLOW, ZERO_DIVISION, STALE, STALE};
        for (int cell = 0; cell < want.length; cell++) {
            checks.due("status(" + cell + ")", x.status(cell), want[cell]);
        }
        x.runStale();
        checks.due("BAD_INPUT as a result", x.status(8), BAD_INPUT);
        checks.due("FRESH", x.status(9), FRESH);
        x.addCell(5, ADD, 1, 1);
        checks.due("a static error before the error that is the result", x.status(6), MULTIPLE);
        checks.due("a static error before STALE", x.status(10), MULTIPLE);
        x.undo();
        x.editCell(5, 4, ADD, 1, 1);
        checks.due("STALE before the error that is the result", x.status(6), STALE);
        checks.due("STALE before FRESH", x.status(9), STALE);
    }

    private static void statusRefused() {
        checks.sentence("Promise 13", "Returns the status; INVALID if there is no such cell.");
        for (int wrong : FAR_CELLS) {
            Twins.refused(checks, "status(" + wrong + ")", x -> x.status(wrong), INVALID);
        }
        Twins.refused(checks, "status of the cell above the last", x -> x.status(x.cellCount()), INVALID);
        checks.due("the last of 12", Notebooks.full().status(11), MULTIPLE);
        checks.due("the first of 12", Notebooks.full().status(0), FRESH);
    }

    // ---- Promises 19 to 21

    private static void dependenciesMask() {
        checks.sentence("Promise 19", "Returns a bit mask of cells");
        ReactiveNotebook x = Notebooks.constants(9);
        x.addCell(8, ADD, 1, 1);
        x.addCell(8, ADD, 1, 1);
        x.addCell(9, ADD, 1, 109);
        checks.due("constants: none", x.dependencies(0), 0);
        checks.due("itself as the last of 12: the highest bit", x.dependencies(11), 2048);
        x.editCell(11, 9, ADD, 100, 109);
        checks.due("two: the highest and the lowest bit", x.dependencies(11), 2049);
        x.editCell(11, 9, ADD, 109, 100);
        checks.due("two, the other way round", x.dependencies(11), 2049);
        x.editCell(11, 9, ADD, 100, 100);
        checks.due("the same twice: one bit", x.dependencies(11), 1);
        x.editCell(0, 0, ADD, 101, 1);
        checks.due("direct ones alone", x.dependencies(11), 1);
        x.editCell(11, 9, ADD, 108, 99);
        checks.due("none of three definers", x.dependencies(11), 0);
    }

    private static void dependenciesRefused() {
        checks.sentence("Promise 19", "INVALID if there is no such cell.");
        for (int wrong : FAR_CELLS) {
            Twins.refused(checks, "dependencies(" + wrong + ")", x -> x.dependencies(wrong), INVALID);
        }
        Twins.refused(checks, "dependencies of the cell above the last", x -> x.dependencies(x.cellCount()), INVALID);
        checks.due("the last of 12", Notebooks.full().dependencies(11), 256);
    }

    private static void dependentsMask() {
        checks.sentence("Promise 20", "Returns the cells that depend on a cell directly or indirectly.");
        ReactiveNotebook x = Notebooks.full();
        checks.due("all others of 12", x.dependents(0), 4094);
        checks.due("those behind the middle", x.dependents(4), 4064);
        checks.due("the three that use it directly", x.dependents(8), 3584);
        checks.due("none", x.dependents(11), 0);
        ReactiveNotebook y = Notebooks.reversedChain(10);
        checks.due("the lowest depends on the highest", y.dependents(9), 511);
        checks.due("none depends on the lowest", y.dependents(0), 0);
    }

    private static void dependentsThroughTheLastCells() {
        checks.sentence("Promise 20", "Returns the cells that depend on a cell directly or indirectly.");
        for (int between = 3; between < 12; between++) {
            ReactiveNotebook x = new ReactiveNotebook();
            x.addCell(0, ADD, 1, 1);
            x.addCell(2, ADD, 101, 1);
            x.addCell(1, ADD, 100, 1);
            for (int i = 0; i < 9; i++) {
                x.addCell(9, ADD, i, 1);
            }
            x.moveCell(2, between);
            checks.due("over cell " + between, x.dependents(0), 2 | 1 << between);
            x.editCell(0, 0, ADD, 102, 1);
            checks.due("a cycle over cell " + between, x.dependents(0), 3 | 1 << between);
            checks.due("the cells on it", x.status(0), CYCLE);
        }
    }

    private static void dependentsContainTheCellOnACycle() {
        checks.sentence("Promise 20", "The cell itself is contained if it lies on a cycle.");
        ReactiveNotebook x = Notebooks.full();
        x.editCell(0, 0, ADD, 108, 1);
        for (int cell = 0; cell < 9; cell++) {
            checks.due("all 12: cell " + cell + " of the cycle of nine", x.dependents(cell), 4095);
        }
        checks.due("one behind the cycle", x.dependents(9), 0);
        ReactiveNotebook y = Notebooks.chain(3);
        y.editCell(1, 1, ADD, 101, 100);
        checks.due("a cycle of one", y.dependents(1), 6);
        checks.due("before the cycle: not itself", y.dependents(0), 6);
        checks.due("behind the cycle: not itself", y.dependents(2), 0);
    }

    private static void dependentsRefused() {
        checks.sentence("Promise 20", "INVALID if there is no such cell.");
        for (int wrong : FAR_CELLS) {
            Twins.refused(checks, "dependents(" + wrong + ")", x -> x.dependents(wrong), INVALID);
        }
        Twins.refused(checks, "dependents of the cell above the last", x -> x.dependents(x.cellCount()), INVALID);
    }

    private static void definersMask() {
        checks.sentence("Promise 21", "Returns the cells that define a variable.");
        checks.due("of an empty notebook", new ReactiveNotebook().definers(0), 0);
        for (int cells = 1; cells <= 12; cells++) {
            checks.due(cells + " cells", Notebooks.rivals(cells).definers(0), (1 << cells) - 1);
            checks.due("another variable", Notebooks.rivals(cells).definers(9), 0);
        }
        ReactiveNotebook x = Notebooks.full();
        checks.due("the last three of 12", x.definers(9), 3584);
        checks.due("the first", x.definers(0), 1);
    }

    private static void definersWithStaticErrors() {
        checks.sentence("Promise 21", "Returns the cells that define a variable.");
        ReactiveNotebook x = Notebooks.constants(1);
        x.addCell(1, ADD, 101, 1);
        x.addCell(2, ADD, 109, 1);
        x.addCell(3, ADD, 102, 1);
        checks.due("one that can be run", x.definers(0), 1);
        checks.due("one on a cycle", x.definers(1), 2);
        checks.due("an UNDEFINED one", x.definers(2), 4);
        checks.due("a BAD_INPUT one", x.definers(3), 8);
        x.addCell(0, ADD, 109, 1);
        checks.due("two MULTIPLE ones", x.definers(0), 17);
    }

    private static void definersRefused() {
        checks.sentence("Promise 21", "INVALID if variable is out of range.");
        for (int wrong : new int[] {-1, 10, 100, 109, MIN, MAX}) {
            Twins.refused(checks, "definers(" + wrong + ")", x -> x.definers(wrong), INVALID);
        }
        checks.due("the least", new ReactiveNotebook().definers(0), 0);
        checks.due("the greatest", new ReactiveNotebook().definers(9), 0);
    }

    // ---- Promises 22 to 24

    private static void runnableCount() {
        checks.sentence("Promise 22", "Returns the length of the run order, which is the number of runnable cells.");
        checks.due("an empty notebook", new ReactiveNotebook().runnableCount(), 0);
        checks.due("a full one without runnable cells", Notebooks.rivals(12).runnableCount(), 0);
        for (int cells = 1; cells <= 10; cells++) {
            checks.due(cells + " cells", Notebooks.constants(cells).runnableCount(), cells);
        }
        ReactiveNotebook x = Notebooks.constants(10);
        x.addCell(9, ADD, 1, 1);
        checks.due("a second definer takes one away", x.runnableCount(), 9);
        x.addCell(0, ADD, 1, 1);
        checks.due("and another one", x.runnableCount(), 8);
        checks.due("a full one with nine", Notebooks.full().runnableCount(), 9);
    }

    private static void runnableCountRange() {
        checks.sentence("Promise 22", "Returns 0 to 12.");
        checks.due("the least, of no cell", new ReactiveNotebook().runnableCount(), 0);
        checks.due("the least, of 12 cells", Notebooks.rivals(12).runnableCount(), 0);
        // 10 variables leave room for 10 runnable cells, though the document's range goes to 12.
        checks.due("the most that can be", Notebooks.chain(10).runnableCount(), 10);
        checks.due("the most that 12 cells can have", Notebooks.full().runnableCount(), 9);
    }

    private static void runOrderIndex() {
        checks.sentence("Promise 23",
            "Returns the index of the cell; NONE if index is not below runnableCount(); INVALID if index is negative.");
        for (int wrong : new int[] {-1, -2, MIN}) {
            Twins.refused(checks, "runOrder(" + wrong + ")", x -> x.runOrder(wrong), INVALID);
        }
        ReactiveNotebook empty = new ReactiveNotebook();
        checks.due("0 in an empty notebook", empty.runOrder(0), NONE);
        ReactiveNotebook x = Notebooks.constants(10);
        checks.due("the first", x.runOrder(0), 0);
        checks.due("the last", x.runOrder(9), 9);
        for (int above : new int[] {10, 11, 12, 13, 100, MAX}) {
            checks.due("runOrder(" + above + ")", x.runOrder(above), NONE);
        }
        x.editCell(9, 9, ADD, 109, 1);
        checks.due("the last of nine", x.runOrder(8), 8);
        checks.due("none at the place of the tenth any more", x.runOrder(9), NONE);
        checks.due("NONE is no error", x.errorCount(0) + x.errorCount(1) + x.errorCount(2), 0);
    }

    private static void staleCount() {
        checks.sentence("Promise 24", "Returns the number of runnable cells that are not fresh.");
        checks.due("an empty notebook", new ReactiveNotebook().staleCount(), 0);
        checks.due("cells that are not runnable", Notebooks.rivals(12).staleCount(), 0);
        ReactiveNotebook x = Notebooks.chain(10);
        for (int cell = 0; cell < 10; cell++) {
            checks.due("before runCell(" + cell + ")", x.staleCount(), 10 - cell);
            x.runCell(cell);
        }
        checks.due("none is left", x.staleCount(), 0);
        x.editCell(0, 0, ADD, 1, 1);
        checks.due("the edited one and all behind it", x.staleCount(), 10);
        x.editCell(0, 0, ADD, 100, 1);
        checks.due("none is runnable", x.staleCount(), 0);
        ReactiveNotebook y = Notebooks.rivals(1);
        y.editCell(0, 0, MAXIMUM, 1, 1);
        checks.due("one that was never run", y.staleCount(), 1);
        ReactiveNotebook z = new ReactiveNotebook();
        z.addCell(0, Notebooks.DIVIDE, 1, 0);
        z.addCell(1, ADD, 100, 1);
        z.runStale();
        checks.due("results that are errors are fresh", z.staleCount(), 0);
    }
}
