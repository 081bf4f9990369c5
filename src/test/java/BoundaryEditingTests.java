/** The boundary cases that the document names of the notebook and its cells, and of promises 1 to 6, 11 and 12. */
final class BoundaryEditingTests {
    private static final int NONE = -10001, INVALID = -10002, REJECTED = -10003, FULL = -10004;
    private static final int FRESH = 0, STALE = 1, MULTIPLE = 2;
    private static final int ADD = 0, SUBTRACT = 1, MULTIPLY = 2, DIVIDE = 3, MAXIMUM = 4, MINIMUM = 5;
    private static final int MIN = Integer.MIN_VALUE, MAX = Integer.MAX_VALUE;
    private static final Checks checks = new Checks("BoundaryEditingTests");

    public static void main(String[] args) {
        calls512();
        refusedCalls512();
        cellsAtMost12();
        variables0To9();
        constantOperands();
        variableOperands();
        operators();
        quotientRoundedTowardZero();
        leftOperandFirst();
        newObject();
        addCellVariable();
        addCellOperator();
        addCellLeft();
        addCellRight();
        addCellIndex();
        addCellFull();
        editCellCell();
        editCellVariable();
        editCellOperator();
        editCellLeft();
        editCellRight();
        editCellReplacesTheDefinition();
        editCellLosesResult();
        editCellAnswer();
        deleteCellMovesLaterOnes();
        deleteCellAnswer();
        deleteCellRefused();
        moveCellTarget();
        moveCellBetween();
        moveCellKeepsResults();
        moveCellAnswer();
        setEagerMode();
        setEagerSetsTheMode();
        setEagerAnswer();
        cellCount();
        variable();
        checks.finish();
    }

    // ---- the head of the document

    /** 511 calls; with what the caller asks then, 512. In the last 500 all ten cells are run with new results. */
    private static ReactiveNotebook after511Calls() {
        ReactiveNotebook x = new ReactiveNotebook();
        x.setEager(1);
        Notebooks.addChain(x, 10);
        for (int i = 0; i < 500; i++) {
            x.editCell(0, 0, ADD, i % 2, 7);
        }
        return x;
    }

    private static void calls512() {
        checks.sentence("What it is", "An object is used for at most 512 calls after it has been made");
        checks.due("the 512th call totalRuns()", after511Calls().totalRuns(), 5010);
        checks.due("the 512th call version(9)", after511Calls().version(9), 5010);
        checks.due("the 512th call version(0)", after511Calls().version(0), 5001);
        checks.due("the 512th call runs(0)", after511Calls().runs(0), 501);
        checks.due("the 512th call value(9)", after511Calls().value(9), 17);
        checks.due("the 512th call lastRun(9)", after511Calls().lastRun(9), 9);
        checks.due("the 512th call addCell", after511Calls().addCell(9, ADD, 1, 1), 10);
        checks.due("the 512th call undo()", after511Calls().undo(), 3);
        checks.due("the 512th call moveCell(0, 9)", after511Calls().moveCell(0, 9), 10);
        checks.due("the 512th call digest()", after511Calls().digest(), after511Calls().digest());
    }

    private static void refusedCalls512() {
        checks.sentence("What it is", "An object is used for at most 512 calls after it has been made");
        ReactiveNotebook x = new ReactiveNotebook();
        for (int i = 0; i < 511; i++) {
            x.deleteCell(i);
        }
        checks.due("the 512th call errorCount(0)", x.errorCount(0), 511);
        ReactiveNotebook y = new ReactiveNotebook();
        for (int i = 0; i < 511; i++) {
            y.undo();
        }
        checks.due("the 512th call errorCount(1)", y.errorCount(1), 511);
        ReactiveNotebook z = Notebooks.rivals(12);
        for (int i = 0; i < 499; i++) {
            z.addCell(0, ADD, 1, 1);
        }
        checks.due("the 512th call errorCount(2)", z.errorCount(2), 499);
    }

    // ---- Terms, CELLS

    private static void cellsAtMost12() {
        checks.sentence("CELLS", "The notebook is a list of at most 12 cells, indexed from 0.");
        ReactiveNotebook x = new ReactiveNotebook();
        checks.due("no cell 0 yet", x.variable(0), INVALID);
        for (int i = 0; i < 12; i++) {
            checks.due("cell " + i, x.addCell(i % 10, ADD, 1, 1), i);
        }
        checks.due("the first cell has index 0", x.variable(0), 0);
        checks.due("the twelfth has index 11", x.variable(11), 1);
        checks.due("none has index 12", x.variable(12), INVALID);
        checks.due("a thirteenth", x.addCell(2, ADD, 1, 1), FULL);
        checks.due("cellCount()", x.cellCount(), 12);
        x.deleteCell(11);
        checks.due("one less: there is room for one", x.addCell(3, ADD, 1, 1), 11);
        checks.due("and for no other", x.addCell(3, ADD, 1, 1), FULL);
        x.undo();
        checks.due("11 cells after undo()", x.cellCount(), 11);
        x.undo();
        checks.due("full again after undo()", x.addCell(3, ADD, 1, 1), FULL);
    }

    private static void variables0To9() {
        checks.sentence("CELLS", "There are 10 variables, numbered 0 to 9.");
        ReactiveNotebook x = Notebooks.constants(10);
        x.runStale();
        for (int variable = 0; variable < 10; variable++) {
            checks.due("variable(" + variable + ")", x.variable(variable), variable);
            checks.due("definers(" + variable + ")", x.definers(variable), 1 << variable);
            checks.due("valueOf(" + variable + ")", x.valueOf(variable), variable + 10);
        }
        checks.due("addCell of variable -1", x.addCell(-1, ADD, 1, 1), INVALID);
        checks.due("addCell of variable 10", x.addCell(10, ADD, 1, 1), INVALID);
        checks.due("definers(-1)", x.definers(-1), INVALID);
        checks.due("definers(10)", x.definers(10), INVALID);
        checks.due("valueOf(-1)", x.valueOf(-1), INVALID);
        checks.due("valueOf(10)", x.valueOf(10), INVALID);
    }

    private static void constantOperands() {
        checks.sentence("CELLS", "An operand is a number: 0 to 99 is that constant");
        ReactiveNotebook x = new ReactiveNotebook();
        x.setEager(1);
        x.addCell(0, ADD, 0, 0);
        for (int operand = 0; operand < 100; operand++) {
            x.editCell(0, 0, SUBTRACT, operand, 0);
            checks.due(operand + " on the left", x.value(0), operand);
            x.editCell(0, 0, SUBTRACT, 0, operand);
            checks.due(operand + " on the right", x.value(0), -operand);
            checks.due(operand + " is no variable", x.dependencies(0), 0);
        }
    }

    private static void variableOperands() {
        checks.sentence("CELLS", "100 to 109 is the variable with number operand - 100.");
        ReactiveNotebook x = Notebooks.constants(10);
        x.runStale();
        for (int variable = 0; variable < 10; variable++) {
            int user = (variable + 1) % 10;
            x.editCell(user, user, SUBTRACT, 100 + variable, 0);
            x.runCell(user);
            checks.due(100 + variable + " on the left", x.value(user), variable + 10);
            checks.due(100 + variable + " on the left depends", x.dependencies(user), 1 << variable);
            x.editCell(user, user, SUBTRACT, 0, 100 + variable);
            x.runCell(user);
            checks.due(100 + variable + " on the right", x.value(user), -variable - 10);
            checks.due(100 + variable + " on the right depends", x.dependencies(user), 1 << variable);
            x.undo();
            x.undo();
            x.undo();
            x.undo();
        }
    }

    private static void valueIs(int operator, int left, int right, int want) {
        ReactiveNotebook x = Notebooks.computed(operator, left, right);
        checks.due("operator " + operator + " of " + left + " and " + right, x.value(Notebooks.COMPUTED), want);
    }

    private static void operators() {
        checks.sentence("CELLS", "Operators: 0 ADD, 1 SUBTRACT, 2 MULTIPLY, 3 DIVIDE (quotient rounded toward zero), "
            + "4 MAXIMUM, 5 MINIMUM.");
        int[] want = {14, 10, 24, 6, 12, 2};
        for (int operator = 0; operator < 6; operator++) {
            ReactiveNotebook x = new ReactiveNotebook();
            x.addCell(0, operator, 12, 2);
            x.runStale();
            checks.due("operator " + operator + " of 12 and 2", x.value(0), want[operator]);
        }
        checks.due("no operator -1", new ReactiveNotebook().addCell(0, -1, 12, 2), INVALID);
        checks.due("no operator 6", new ReactiveNotebook().addCell(0, 6, 12, 2), INVALID);
        valueIs(MAXIMUM, 5, 5, 5);
        valueIs(MINIMUM, 5, 5, 5);
        valueIs(MAXIMUM, -1, 0, 0);
        valueIs(MINIMUM, -1, 0, -1);
    }

    private static void quotientRoundedTowardZero() {
        checks.sentence("CELLS", "DIVIDE (quotient rounded toward zero)");
        valueIs(DIVIDE, 1, 2, 0);
        valueIs(DIVIDE, -1, 2, 0);
        valueIs(DIVIDE, 1, -2, 0);
        valueIs(DIVIDE, -1, -2, 0);
        valueIs(DIVIDE, 199, 100, 1);
        valueIs(DIVIDE, -199, 100, -1);
        valueIs(DIVIDE, 199, -100, -1);
        valueIs(DIVIDE, -199, -100, 1);
        valueIs(DIVIDE, 200, 100, 2);
        valueIs(DIVIDE, -200, 100, -2);
        valueIs(DIVIDE, -201, 100, -2);
        valueIs(DIVIDE, 9998, 9999, 0);
        valueIs(DIVIDE, -9998, 9999, 0);
        valueIs(DIVIDE, -9999, 9999, -1);
    }

    private static void leftOperandFirst() {
        checks.sentence("CELLS", "The left operand comes first.");
        valueIs(SUBTRACT, 1, 3, -2);
        valueIs(SUBTRACT, 3, 1, 2);
        valueIs(DIVIDE, 0, 5, 0);
        valueIs(DIVIDE, 7, 3, 2);
        valueIs(DIVIDE, 3, 7, 0);
    }

    // ---- Promise 1

    private static void newObject() {
        checks.sentence("Promise 1", "Creates an empty notebook in non-eager mode with an empty undo stack.");
        ReactiveNotebook x = new ReactiveNotebook();
        checks.due("empty", x.cellCount(), 0);
        checks.due("empty undo stack", x.undo(), REJECTED);
        checks.due("still empty", x.undo(), REJECTED);
        x.addCell(0, ADD, 1, 1);
        checks.due("non-eager: a new cell is not run", x.status(0), STALE);
        checks.due("non-eager: totalRuns()", x.totalRuns(), 0);
        checks.due("non-eager: setEager(0) tells it", new ReactiveNotebook().setEager(0), 0);
    }

    // ---- Promise 2

    private static final int[] WRONG_VARIABLES = {-1, 10, MIN, MAX};
    private static final int[] WRONG_OPERATORS = {-1, 6, MIN, MAX};
    private static final int[] WRONG_OPERANDS = {-1, 110, MIN, MAX};

    private static void addCellVariable() {
        checks.sentence("Promise 2", "variable: number of the variable that the cell defines, 0 to 9");
        for (int wrong : WRONG_VARIABLES) {
            Twins.refused(checks, "addCell of variable " + wrong, x -> x.addCell(wrong, ADD, 1, 1), INVALID);
        }
        ReactiveNotebook x = new ReactiveNotebook();
        checks.due("the least", x.addCell(0, ADD, 1, 1), 0);
        checks.due("the greatest", x.addCell(9, ADD, 1, 1), 1);
        checks.due("variable(0)", x.variable(0), 0);
        checks.due("variable(1)", x.variable(1), 9);
    }

    private static void addCellOperator() {
        checks.sentence("Promise 2", "operator: 0 to 5");
        for (int wrong : WRONG_OPERATORS) {
            Twins.refused(checks, "addCell with operator " + wrong, x -> x.addCell(9, wrong, 1, 1), INVALID);
        }
        ReactiveNotebook x = new ReactiveNotebook();
        checks.due("the least", x.addCell(0, 0, 3, 4), 0);
        checks.due("the greatest", x.addCell(1, 5, 3, 4), 1);
        x.runStale();
        checks.due("operator 0", x.value(0), 7);
        checks.due("operator 5", x.value(1), 3);
    }

    private static void addCellLeft() {
        checks.sentence("Promise 2", "left: left operand, 0 to 109");
        for (int wrong : WRONG_OPERANDS) {
            Twins.refused(checks, "addCell with left " + wrong, x -> x.addCell(9, ADD, wrong, 1), INVALID);
        }
        ReactiveNotebook x = new ReactiveNotebook();
        checks.due("the greatest", x.addCell(0, SUBTRACT, 109, 1), 0);
        checks.due("the least", x.addCell(9, SUBTRACT, 0, 1), 1);
        x.runStale();
        checks.due("left 109", x.value(0), -2);
        checks.due("left 0", x.value(1), -1);
    }

    private static void addCellRight() {
        checks.sentence("Promise 2", "right: right operand, 0 to 109");
        for (int wrong : WRONG_OPERANDS) {
            Twins.refused(checks, "addCell with right " + wrong, x -> x.addCell(9, ADD, 1, wrong), INVALID);
        }
        ReactiveNotebook x = new ReactiveNotebook();
        checks.due("the greatest", x.addCell(0, SUBTRACT, 1, 109), 0);
        checks.due("the least", x.addCell(9, SUBTRACT, 3, 0), 1);
        x.runStale();
        checks.due("right 109", x.value(0), -2);
        checks.due("right 0", x.value(1), 3);
    }

    private static void addCellIndex() {
        checks.sentence("Promise 2", "Returns the index of the new cell");
        ReactiveNotebook x = new ReactiveNotebook();
        checks.due("the first", x.addCell(5, ADD, 1, 1), 0);
        checks.due("the second", x.addCell(5, ADD, 1, 1), 1);
        x.deleteCell(0);
        checks.due("at the end again", x.addCell(6, ADD, 1, 1), 1);
        checks.due("which is where it stands", x.variable(1), 6);
        ReactiveNotebook y = Notebooks.rivals(11);
        checks.due("the last", y.addCell(6, ADD, 1, 1), 11);
        checks.due("which is where it stands", y.variable(11), 6);
    }

    private static void addCellFull() {
        checks.sentence("Promise 2", "FULL if there are 12 cells.");
        checks.due("with 11 cells", Notebooks.rivals(11).addCell(9, ADD, 1, 1), 11);
        Twins.refusedBy(checks, "with 12 cells", Notebooks::full, x -> x.addCell(9, ADD, 1, 1), FULL);
        Twins.refusedBy(checks, "with 12 rivals", () -> Notebooks.rivals(12), x -> x.addCell(9, MINIMUM, 109, 0), FULL);
        Twins.refusedBy(checks, "with 12 cells, nine of them stale", () -> {
            ReactiveNotebook x = Notebooks.full();
            x.editCell(0, 0, ADD, 50, 5);
            return x;
        }, x -> x.addCell(9, ADD, 1, 1), FULL);
        Twins.refusedBy(checks, "with 12 cells in eager mode", () -> {
            ReactiveNotebook x = Notebooks.full();
            x.setEager(1);
            return x;
        }, x -> x.addCell(0, ADD, 0, 0), FULL);
    }

    // ---- Promise 3

    private static final int[] FAR_CELLS = {-1, 12, 32, MIN, MAX};

    private static void editCellCell() {
        checks.sentence("Promise 3", "cell: index of an existing cell");
        for (int wrong : FAR_CELLS) {
            Twins.refused(checks, "editCell of cell " + wrong, x -> x.editCell(wrong, 0, ADD, 1, 1), INVALID);
        }
        Twins.refused(checks, "editCell of the cell above the last", x -> x.editCell(x.cellCount(), 0, ADD, 1, 1), INVALID);
        ReactiveNotebook x = Notebooks.constants(3);
        checks.due("the first", x.editCell(0, 5, ADD, 1, 1), 0);
        checks.due("the last", x.editCell(2, 6, ADD, 1, 1), 2);
        checks.due("variable(0)", x.variable(0), 5);
        checks.due("variable(2)", x.variable(2), 6);
        ReactiveNotebook y = Notebooks.full();
        checks.due("the last of a full notebook", y.editCell(11, 8, ADD, 1, 1), 9);
        checks.due("variable(11)", y.variable(11), 8);
    }

    private static void editCellVariable() {
        checks.sentence("Promise 3", "variable: number of the variable that the cell defines, 0 to 9");
        for (int wrong : WRONG_VARIABLES) {
            Twins.refused(checks, "editCell to variable " + wrong, x -> x.editCell(0, wrong, ADD, 1, 1), INVALID);
        }
        ReactiveNotebook x = Notebooks.constants(2);
        x.editCell(0, 9, ADD, 1, 1);
        checks.due("the greatest", x.variable(0), 9);
        x.editCell(0, 0, ADD, 1, 1);
        checks.due("the least", x.variable(0), 0);
    }

    private static void editCellOperator() {
        checks.sentence("Promise 3", "operator: 0 to 5");
        for (int wrong : WRONG_OPERATORS) {
            Twins.refused(checks, "editCell to operator " + wrong, x -> x.editCell(0, 0, wrong, 1, 1), INVALID);
        }
        ReactiveNotebook x = Notebooks.constants(1);
        x.editCell(0, 0, 5, 3, 4);
        x.runStale();
        checks.due("the greatest", x.value(0), 3);
        x.editCell(0, 0, 0, 3, 4);
        x.runStale();
        checks.due("the least", x.value(0), 7);
    }

    private static void editCellLeft() {
        checks.sentence("Promise 3", "left: left operand, 0 to 109");
        for (int wrong : WRONG_OPERANDS) {
            Twins.refused(checks, "editCell to left " + wrong, x -> x.editCell(0, 0, ADD, wrong, 1), INVALID);
        }
        ReactiveNotebook x = Notebooks.constants(10);
        x.editCell(0, 0, SUBTRACT, 109, 1);
        x.runStale();
        checks.due("the greatest", x.value(0), 18);
        x.editCell(0, 0, SUBTRACT, 0, 1);
        x.runStale();
        checks.due("the least", x.value(0), -1);
    }

    private static void editCellRight() {
        checks.sentence("Promise 3", "right: right operand, 0 to 109");
        for (int wrong : WRONG_OPERANDS) {
            Twins.refused(checks, "editCell to right " + wrong, x -> x.editCell(0, 0, ADD, 1, wrong), INVALID);
        }
        ReactiveNotebook x = Notebooks.constants(10);
        x.editCell(0, 0, SUBTRACT, 1, 109);
        x.runStale();
        checks.due("the greatest", x.value(0), -18);
        x.editCell(0, 0, SUBTRACT, 1, 0);
        x.runStale();
        checks.due("the least", x.value(0), 1);
    }

    private static void editCellReplacesTheDefinition() {
        checks.sentence("Promise 3", "Replaces the definition of a cell.");
        ReactiveNotebook x = Notebooks.constants(2);
        x.setEager(1);
        x.editCell(1, 9, ADD, 1, 10);
        checks.due("the variable alone: the new one", x.valueOf(9), 11);
        checks.due("the variable alone: the old one", x.definers(1), 0);
        x.editCell(1, 9, SUBTRACT, 1, 10);
        checks.due("the operator alone", x.value(1), -9);
        x.editCell(1, 9, SUBTRACT, 2, 10);
        checks.due("the left operand alone", x.value(1), -8);
        x.editCell(1, 9, SUBTRACT, 2, 11);
        checks.due("the right operand alone", x.value(1), -9);
        x.editCell(1, 9, SUBTRACT, 100, 11);
        checks.due("a variable in a constant's place", x.dependencies(1), 1);
        x.editCell(1, 9, SUBTRACT, 2, 11);
        checks.due("a constant in a variable's place", x.dependencies(1), 0);
        checks.due("no cell is added", x.cellCount(), 2);
        checks.due("the other cell stays", x.value(0), 10);
    }

    private static void editCellLosesResult() {
        checks.sentence("Promise 3", "The cell loses its result, also if the definition is the same as before.");
        ReactiveNotebook x = Notebooks.constants(2);
        x.runStale();
        x.editCell(1, 1, ADD, 1, 10);
        checks.due("the same definition: version(1)", x.version(1), 0);
        checks.due("the same definition: status(1)", x.status(1), STALE);
        checks.due("the same definition: value(1)", x.value(1), NONE);
        checks.due("the other cell keeps its own", x.version(0), 1);
        x.editCell(0, 0, ADD, 0, 11);
        checks.due("another definition: version(0)", x.version(0), 0);
        x.editCell(0, 0, ADD, 0, 12);
        checks.due("a cell without a result has none afterwards", x.version(0), 0);
        x.editCell(0, 0, DIVIDE, 1, 0);
        x.runCell(0);
        x.editCell(0, 0, DIVIDE, 1, 0);
        checks.due("an error is lost too", x.version(0), 0);
        checks.due("and stale, not that error", x.status(0), STALE);
    }

    private static void editCellAnswer() {
        checks.sentence("Promise 3", "Returns the number of the variable that the cell defined before");
        ReactiveNotebook x = Notebooks.constants(1);
        checks.due("from 0 to 9", x.editCell(0, 9, ADD, 1, 1), 0);
        checks.due("from 9 to 9", x.editCell(0, 9, ADD, 1, 1), 9);
        checks.due("from 9 to 0", x.editCell(0, 0, ADD, 1, 1), 9);
        checks.due("a refused call leaves it", x.editCell(0, 10, ADD, 1, 1), INVALID);
        checks.due("from 0 to 0", x.editCell(0, 0, ADD, 1, 1), 0);
    }

    // ---- Promise 4

    private static void variablesStand(ReactiveNotebook x, String call, int... want) {
        checks.due(call + ": cellCount()", x.cellCount(), want.length);
        for (int i = 0; i < want.length; i++) {
            checks.due(call + ": variable(" + i + ")", x.variable(i), want[i]);
        }
    }

    private static void deleteCellMovesLaterOnes() {
        checks.sentence("Promise 4", "Deletes a cell. Each later cell moves down by one index.");
        ReactiveNotebook x = Notebooks.constants(5);
        x.runStale();
        x.deleteCell(4);
        variablesStand(x, "the last", 0, 1, 2, 3);
        x.deleteCell(0);
        variablesStand(x, "the first", 1, 2, 3);
        x.deleteCell(1);
        variablesStand(x, "the middle", 1, 3);
        checks.due("with its result", x.value(1), 13);
        checks.due("with its version", x.version(1), 4);
        checks.due("with its runs", x.runs(1), 1);
        x.deleteCell(0);
        x.deleteCell(0);
        variablesStand(x, "the only one");
        ReactiveNotebook y = Notebooks.full();
        y.deleteCell(0);
        variablesStand(y, "the first of 12", 1, 2, 3, 4, 5, 6, 7, 8, 9, 9, 9);
        checks.due("there is no cell 11 any more", y.variable(11), INVALID);
    }

    private static void deleteCellAnswer() {
        checks.sentence("Promise 4", "Returns the new number of cells");
        ReactiveNotebook x = Notebooks.rivals(12);
        for (int left = 11; left >= 0; left--) {
            checks.due("deleteCell", x.deleteCell(left % 2 == 0 ? 0 : left), left);
        }
    }

    private static void deleteCellRefused() {
        checks.sentence("Promise 4", "INVALID if there is no such cell.");
        for (int wrong : FAR_CELLS) {
            Twins.refused(checks, "deleteCell(" + wrong + ")", x -> x.deleteCell(wrong), INVALID);
        }
        Twins.refused(checks, "deleteCell of the cell above the last", x -> x.deleteCell(x.cellCount()), INVALID);
        ReactiveNotebook x = Notebooks.rivals(1);
        checks.due("the only cell", x.deleteCell(0), 0);
        checks.due("none is left", x.deleteCell(0), INVALID);
        ReactiveNotebook y = Notebooks.full();
        checks.due("the last of 12", y.deleteCell(11), 11);
        checks.due("it is gone", y.deleteCell(11), INVALID);
    }

    // ---- Promise 5

    private static void moveCellTarget() {
        checks.sentence("Promise 5", "target: new index of the cell, index of an existing cell");
        for (int wrong : FAR_CELLS) {
            Twins.refused(checks, "moveCell(" + wrong + ", 0)", x -> x.moveCell(wrong, 0), INVALID);
            Twins.refused(checks, "moveCell(0, " + wrong + ")", x -> x.moveCell(0, wrong), INVALID);
            Twins.refused(checks, "moveCell(" + wrong + ", " + wrong + ")", x -> x.moveCell(wrong, wrong), INVALID);
        }
        Twins.refused(checks, "moveCell from above the last", x -> x.moveCell(x.cellCount(), 0), INVALID);
        Twins.refused(checks, "moveCell to above the last", x -> x.moveCell(0, x.cellCount()), INVALID);
        ReactiveNotebook x = Notebooks.full();
        checks.due("from the first to the last", x.moveCell(0, 11), 12);
        variablesStand(x, "moveCell(0, 11)", 1, 2, 3, 4, 5, 6, 7, 8, 9, 9, 9, 0);
        checks.due("from the last to the first", x.moveCell(11, 0), 12);
        variablesStand(x, "moveCell(11, 0)", 0, 1, 2, 3, 4, 5, 6, 7, 8, 9, 9, 9);
    }

    private static void moveCellBetween() {
        checks.sentence("Promise 5", "The cells between the two indices move by one index.");
        ReactiveNotebook x = Notebooks.constants(6);
        x.moveCell(1, 4);
        variablesStand(x, "moveCell(1, 4)", 0, 2, 3, 4, 1, 5);
        x.moveCell(4, 1);
        variablesStand(x, "moveCell(4, 1)", 0, 1, 2, 3, 4, 5);
        x.moveCell(2, 3);
        variablesStand(x, "moveCell(2, 3): none between", 0, 1, 3, 2, 4, 5);
        x.moveCell(5, 4);
        variablesStand(x, "moveCell(5, 4): none between", 0, 1, 3, 2, 5, 4);
        x.moveCell(3, 3);
        variablesStand(x, "moveCell(3, 3)", 0, 1, 3, 2, 5, 4);
    }

    private static void moveCellKeepsResults() {
        checks.sentence("Promise 5", "The moved cell and all other cells keep their results.");
        ReactiveNotebook x = Notebooks.chain(10);
        x.runStale();
        x.moveCell(0, 9);
        for (int cell = 0; cell < 9; cell++) {
            checks.due("value of a cell between", x.value(cell), cell + 3);
            checks.due("version of a cell between", x.version(cell), cell + 2);
        }
        checks.due("value of the moved cell", x.value(9), 2);
        checks.due("version of the moved cell", x.version(9), 1);
        checks.due("nothing is stale", x.staleCount(), 0);
        ReactiveNotebook y = Notebooks.chain(2);
        y.runCell(0);
        y.moveCell(1, 0);
        checks.due("a cell without a result gets none", y.version(0), 0);
        checks.due("the other keeps its own", y.version(1), 1);
    }

    private static void moveCellAnswer() {
        checks.sentence("Promise 5", "Returns the number of cells whose index has changed");
        ReactiveNotebook one = Notebooks.rivals(1);
        checks.due("the only cell to its own place", one.moveCell(0, 0), 0);
        ReactiveNotebook x = Notebooks.full();
        for (int cell = 0; cell < 12; cell++) {
            for (int target = 0; target < 12; target++) {
                int want = cell == target ? 0 : Math.max(cell, target) - Math.min(cell, target) + 1;
                checks.due("moveCell(" + cell + ", " + target + ")", x.moveCell(cell, target), want);
            }
        }
    }

    // ---- Promise 6

    private static void setEagerMode() {
        checks.sentence("Promise 6", "INVALID if eager is not 0 or 1.");
        for (int wrong : new int[] {-1, 2, 3, MIN, MAX}) {
            Twins.refused(checks, "setEager(" + wrong + ")", x -> x.setEager(wrong), INVALID);
        }
        checks.due("0", new ReactiveNotebook().setEager(0), 0);
        checks.due("1", new ReactiveNotebook().setEager(1), 0);
    }

    private static void setEagerSetsTheMode() {
        checks.sentence("Promise 6", "eager: 1 for eager mode, 0 for non-eager mode");
        ReactiveNotebook x = new ReactiveNotebook();
        x.setEager(1);
        x.addCell(0, ADD, 1, 1);
        checks.due("1: a new cell is run", x.runs(0), 1);
        x.setEager(0);
        x.addCell(1, ADD, 1, 1);
        checks.due("0: a new cell is not run", x.runs(1), 0);
        x.setEager(0);
        x.addCell(2, ADD, 1, 1);
        checks.due("0 once more: nor is this one", x.runs(2), 0);
        x.setEager(1);
        checks.due("1: what was left is run", x.runs(1) + x.runs(2), 2);
        x.setEager(1);
        checks.due("1 once more: nothing is run again", x.totalRuns(), 3);
    }

    private static void setEagerAnswer() {
        checks.sentence("Promise 6", "Returns the previous mode");
        ReactiveNotebook x = new ReactiveNotebook();
        checks.due("at first", x.setEager(0), 0);
        checks.due("from 0 to 1", x.setEager(1), 0);
        checks.due("from 1 to 1", x.setEager(1), 1);
        checks.due("a refused call leaves it", x.setEager(2), INVALID);
        checks.due("from 1 to 0", x.setEager(0), 1);
        checks.due("a refused call leaves it", x.setEager(-1), INVALID);
        checks.due("from 0 to 0", x.setEager(0), 0);
    }

    // ---- Promises 11 and 12

    private static void cellCount() {
        checks.sentence("Promise 11", "Returns 0 to 12.");
        checks.due("a new notebook", new ReactiveNotebook().cellCount(), 0);
        checks.due("one cell", Notebooks.rivals(1).cellCount(), 1);
        checks.due("all but one", Notebooks.rivals(11).cellCount(), 11);
        ReactiveNotebook x = Notebooks.rivals(12);
        x.addCell(0, ADD, 1, 1);
        checks.due("a full one", x.cellCount(), 12);
    }

    private static void variable() {
        checks.sentence("Promise 12", "Returns 0 to 9; INVALID if there is no such cell.");
        for (int wrong : FAR_CELLS) {
            Twins.refused(checks, "variable(" + wrong + ")", x -> x.variable(wrong), INVALID);
        }
        Twins.refused(checks, "variable of the cell above the last", x -> x.variable(x.cellCount()), INVALID);
        ReactiveNotebook x = Notebooks.full();
        checks.due("the first cell, the least variable", x.variable(0), 0);
        checks.due("the last cell, the greatest variable", x.variable(11), 9);
        checks.due("of a cell with a static error too", x.status(11), MULTIPLE);
        checks.due("of a fresh one too", x.status(0), FRESH);
    }
}
