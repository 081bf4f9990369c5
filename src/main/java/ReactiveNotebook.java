/**
 * A reactive notebook engine: cells define variables by expressions, the engine derives the dependency graph,
 * detects static errors, and recomputes stale cells in dependency order with early cutoff.
 *
 * All rows are made once, in the constructor: a call makes no object.
 */
public final class ReactiveNotebook {
    public static final int NONE = -10001;
    public static final int INVALID = -10002;
    public static final int REJECTED = -10003;
    public static final int FULL = -10004;
    public static final int FRESH = 0, STALE = 1, MULTIPLE = 2, CYCLE = 3, UNDEFINED = 4, BAD_INPUT = 5, OVERFLOW = 6, ZERO_DIVISION = 7;

    private static final int MAX_CELLS = 12;
    private static final int VARIABLES = 10;
    private static final int OPERATORS = 6;
    private static final int FIRST_VARIABLE_OPERAND = 100;
    private static final int OPERANDS = FIRST_VARIABLE_OPERAND + VARIABLES;
    private static final int ADD = 0, SUBTRACT = 1, MULTIPLY = 2, DIVIDE = 3, MAXIMUM = 4;
    private static final int MAX_SAVED = 4;
    private static final int ERROR_KINDS = 3;
    private static final int DIGEST_START = 11872;

    private static final int LOWEST_VALUE = -9999;
    private static final int HIGHEST_VALUE = 9999;
    // A result is one number, so that two results are equal when their numbers are: a value stands for itself,
    // an error for this number plus its status.
    private static final int ERROR_RESULT = HIGHEST_VALUE + 1;

    private static final int NO_CELL = -1;
    private static final int NO_ERROR = 0;
    private static final int NO_VERSION = 0;
    private static final int NO_CELLS = 0;
    private static final int ALL_CELLS = (1 << MAX_CELLS) - 1;

    private final State state = new State();
    private final State[] saved = new State[MAX_SAVED];
    private int savedCount = 0;
    private final int[] errorCounts = new int[ERROR_KINDS];

    // Both follow from the state; every call that changes the state derives them again.
    private final Graph graph = new Graph();
    private int freshCells = NO_CELLS;

    public ReactiveNotebook() {
        for (int i = 0; i < MAX_SAVED; i++) {
            saved[i] = new State();
        }
    }

    // ---- editing

    public int addCell(int variable, int operator, int left, int right) {
        if (!isDefinition(variable, operator, left, right)) {
            return fail(INVALID);
        }
        if (state.count >= MAX_CELLS) {
            return fail(FULL);
        }
        save();
        state.append(variable, operator, left, right);
        finishEditing();
        return state.count - 1;
    }

    public int editCell(int cell, int variable, int operator, int left, int right) {
        if (!isCell(cell) || !isDefinition(variable, operator, left, right)) {
            return fail(INVALID);
        }
        save();
        Cell edited = state.cells[cell];
        int variableBefore = edited.variable;
        edited.define(variable, operator, left, right);
        finishEditing();
        return variableBefore;
    }

    public int deleteCell(int cell) {
        if (!isCell(cell)) {
            return fail(INVALID);
        }
        save();
        state.remove(cell);
        finishEditing();
        return state.count;
    }

    public int moveCell(int cell, int target) {
        if (!isCell(cell) || !isCell(target)) {
            return fail(INVALID);
        }
        save();
        state.move(cell, target);
        finishEditing();
        return cell == target ? 0 : Math.abs(target - cell) + 1;
    }

    public int setEager(int eager) {
        if (eager != 0 && eager != 1) {
            return fail(INVALID);
        }
        save();
        int eagerBefore = state.eager;
        state.eager = eager;
        finishEditing();
        return eagerBefore;
    }

    // ---- running

    public int runStale() {
        save();
        startLastRun();
        walkRunOrder(ALL_CELLS);
        return state.lastRunCount;
    }

    public int runCell(int cell) {
        if (!isCell(cell)) {
            return fail(INVALID);
        }
        if (graph.staticErrors[cell] != NO_ERROR) {
            return fail(REJECTED);
        }
        save();
        startLastRun();
        walkRunOrder(graph.allDependencies[cell] | 1 << cell);
        return state.lastRunCount;
    }

    public int lastRunCount() {
        return state.lastRunCount;
    }

    public int lastRun(int index) {
        if (index < 0) {
            return fail(INVALID);
        }
        return index < state.lastRunCount ? state.lastRunCells[index] : NONE;
    }

    // ---- cells

    public int cellCount() {
        return state.count;
    }

    public int variable(int cell) {
        return isCell(cell) ? state.cells[cell].variable : fail(INVALID);
    }

    public int status(int cell) {
        return isCell(cell) ? statusOf(cell) : fail(INVALID);
    }

    public int value(int cell) {
        return isCell(cell) ? freshValueOf(cell) : fail(INVALID);
    }

    public int valueOf(int variable) {
        if (!isVariable(variable)) {
            return fail(INVALID);
        }
        int definer = graph.soleDefiners[variable];
        return definer == NO_CELL ? NONE : freshValueOf(definer);
    }

    public int version(int cell) {
        return isCell(cell) ? state.cells[cell].version : fail(INVALID);
    }

    public int runs(int cell) {
        return isCell(cell) ? state.cells[cell].runs : fail(INVALID);
    }

    public int totalRuns() {
        return state.totalRuns;
    }

    // ---- graph

    public int dependencies(int cell) {
        return isCell(cell) ? graph.dependencies[cell] : fail(INVALID);
    }

    public int dependents(int cell) {
        return isCell(cell) ? dependentsOf(cell) : fail(INVALID);
    }

    public int definers(int variable) {
        return isVariable(variable) ? graph.definers[variable] : fail(INVALID);
    }

    public int runnableCount() {
        return graph.runnableCount;
    }

    public int runOrder(int index) {
        if (index < 0) {
            return fail(INVALID);
        }
        return index < graph.runnableCount ? graph.runOrder[index] : NONE;
    }

    public int staleCount() {
        return graph.runnableCount - Integer.bitCount(freshCells);
    }

    // ---- undo and errors

    public int undo() {
        if (savedCount <= 0) {
            return fail(REJECTED);
        }
        savedCount--;
        state.copyFrom(saved[savedCount]);
        graph.derive(state);
        walkRunOrder(NO_CELLS);
        return savedCount;
    }

    public int errorCount(int kind) {
        return kind >= 0 && kind < ERROR_KINDS ? errorCounts[kind] : fail(INVALID);
    }

    public long digest() {
        long hash = DIGEST_START;
        for (int kind = 0; kind < ERROR_KINDS; kind++) {
            hash = mix(hash, errorCounts[kind]);
        }
        hash = mix(hash, savedCount);
        hash = mix(hash, state.eager);
        hash = mix(hash, state.totalRuns);
        hash = mix(hash, state.lastRunCount);
        for (int i = 0; i < state.lastRunCount; i++) {
            hash = mix(hash, state.lastRunCells[i]);
        }
        hash = mix(hash, state.count);
        for (int cell = 0; cell < state.count; cell++) {
            hash = mixCell(hash, cell);
        }
        hash = mix(hash, graph.runnableCount);
        for (int i = 0; i < graph.runnableCount; i++) {
            hash = mix(hash, graph.runOrder[i]);
        }
        return hash;
    }

    private long mixCell(long start, int index) {
        Cell cell = state.cells[index];
        long hash = mix(start, cell.variable);
        hash = mix(hash, cell.operator);
        hash = mix(hash, cell.left);
        hash = mix(hash, cell.right);
        hash = mix(hash, statusOf(index));
        hash = mix(hash, freshValueOf(index));
        hash = mix(hash, cell.version);
        hash = mix(hash, cell.runs);
        hash = mix(hash, graph.dependencies[index]);
        return mix(hash, dependentsOf(index));
    }

    private static long mix(long hash, long added) {
        return 31 * hash + added;
    }

    // ---- arguments and errors

    private boolean isCell(int cell) {
        return cell >= 0 && cell < state.count;
    }

    private static boolean isVariable(int variable) {
        return variable >= 0 && variable < VARIABLES;
    }

    private static boolean isDefinition(int variable, int operator, int left, int right) {
        return isVariable(variable) && operator >= 0 && operator < OPERATORS && isOperand(left) && isOperand(right);
    }

    private static boolean isOperand(int operand) {
        return operand >= 0 && operand < OPERANDS;
    }

    private static boolean isVariableOperand(int operand) {
        return operand >= FIRST_VARIABLE_OPERAND && operand < OPERANDS;
    }

    private static boolean contains(int cells, int cell) {
        return (cells & 1 << cell) != 0;
    }

    private int fail(int code) {
        // The codes go down from INVALID in the order in which the kinds go up from 0.
        int kind = INVALID - code;
        if (kind >= 0 && kind < ERROR_KINDS) {
            errorCounts[kind]++;
        }
        return code;
    }

    // ---- the undo stack

    private void save() {
        if (savedCount >= MAX_SAVED) {
            dropOldest();
        }
        saved[savedCount].copyFrom(state);
        savedCount++;
    }

    private void dropOldest() {
        // The oldest state's rows become the room of the newest.
        State oldest = saved[0];
        for (int i = 1; i < MAX_SAVED; i++) {
            saved[i - 1] = saved[i];
        }
        saved[MAX_SAVED - 1] = oldest;
        savedCount = MAX_SAVED - 1;
    }

    // ---- running cells

    private void finishEditing() {
        graph.derive(state);
        startLastRun();
        walkRunOrder(state.eager == 1 ? ALL_CELLS : NO_CELLS);
    }

    private void startLastRun() {
        state.lastRunCount = 0;
    }

    /** Runs each of the wanted cells that is stale when it is reached, and finds which cells are fresh then. */
    private void walkRunOrder(int wantedCells) {
        // The dependencies of a cell stand before it, so what is found of them here does not change later.
        freshCells = NO_CELLS;
        for (int i = 0; i < graph.runnableCount; i++) {
            int cell = graph.runOrder[i];
            boolean fresh = isUpToDate(cell);
            if (!fresh && contains(wantedCells, cell)) {
                run(cell);
                fresh = true;
            }
            if (fresh) {
                freshCells |= 1 << cell;
            }
        }
    }

    private boolean isUpToDate(int index) {
        Cell cell = state.cells[index];
        return cell.version != NO_VERSION
            && (graph.dependencies[index] & ~freshCells) == 0
            && cell.leftVersion == inputVersion(cell.left)
            && cell.rightVersion == inputVersion(cell.right);
    }

    private void run(int index) {
        Cell cell = state.cells[index];
        cell.leftVersion = inputVersion(cell.left);
        cell.rightVersion = inputVersion(cell.right);
        int result = combine(cell.operator, inputResult(cell.left), inputResult(cell.right));
        if (cell.version == NO_VERSION || result != cell.result) {
            state.greatestVersion++;
            cell.version = state.greatestVersion;
            cell.result = result;
        }
        cell.runs++;
        state.recordRun(index);
    }

    private int inputVersion(int operand) {
        int definer = graph.soleDefinerOf(operand);
        return definer == NO_CELL ? NO_VERSION : state.cells[definer].version;
    }

    private int inputResult(int operand) {
        // A runnable cell's operand without a definer is a constant.
        int definer = graph.soleDefinerOf(operand);
        return definer == NO_CELL ? operand : state.cells[definer].result;
    }

    private static int combine(int operator, int left, int right) {
        if (isErrorResult(left) || isErrorResult(right)) {
            return ERROR_RESULT + BAD_INPUT;
        }
        switch (operator) {
            case ADD:
                return limit(left + right);
            case SUBTRACT:
                return limit(left - right);
            case MULTIPLY:
                return limit(left * right);
            case DIVIDE:
                return right == 0 ? ERROR_RESULT + ZERO_DIVISION : left / right;
            case MAXIMUM:
                return Math.max(left, right);
            default:
                return Math.min(left, right);
        }
    }

    private static int limit(int exact) {
        return exact < LOWEST_VALUE || exact > HIGHEST_VALUE ? ERROR_RESULT + OVERFLOW : exact;
    }

    private static boolean isErrorResult(int result) {
        return result >= ERROR_RESULT;
    }

    // ---- what is told of a cell

    private int statusOf(int cell) {
        if (graph.staticErrors[cell] != NO_ERROR) {
            return graph.staticErrors[cell];
        }
        if (!contains(freshCells, cell)) {
            return STALE;
        }
        int result = state.cells[cell].result;
        return isErrorResult(result) ? result - ERROR_RESULT : FRESH;
    }

    private int freshValueOf(int cell) {
        return statusOf(cell) == FRESH ? state.cells[cell].result : NONE;
    }

    private int dependentsOf(int cell) {
        int found = NO_CELLS;
        for (int other = 0; other < state.count; other++) {
            if (contains(graph.allDependencies[other], cell)) {
                found |= 1 << other;
            }
        }
        return found;
    }

    private static final class Cell {
        int variable;
        int operator;
        int left;
        int right;
        /** Means nothing while the version is NO_VERSION. */
        int result;
        /** NO_VERSION while the cell has no result. */
        int version;
        /** The versions that the latest run used; NO_VERSION for an operand that is a constant. */
        int leftVersion;
        int rightVersion;
        int runs;

        void define(int newVariable, int newOperator, int newLeft, int newRight) {
            variable = newVariable;
            operator = newOperator;
            left = newLeft;
            right = newRight;
            version = NO_VERSION;
        }

        void copyFrom(Cell other) {
            variable = other.variable;
            operator = other.operator;
            left = other.left;
            right = other.right;
            result = other.result;
            version = other.version;
            leftVersion = other.leftVersion;
            rightVersion = other.rightVersion;
            runs = other.runs;
        }
    }

    /** All that undo() restores. */
    private static final class State {
        /** The cells from count on are spare rows for cells to come. */
        final Cell[] cells = new Cell[MAX_CELLS];
        int count = 0;
        int eager = 0;
        int totalRuns = 0;
        int greatestVersion = NO_VERSION;
        final int[] lastRunCells = new int[MAX_CELLS];
        int lastRunCount = 0;

        State() {
            for (int i = 0; i < MAX_CELLS; i++) {
                cells[i] = new Cell();
            }
        }

        void copyFrom(State other) {
            count = other.count;
            eager = other.eager;
            totalRuns = other.totalRuns;
            greatestVersion = other.greatestVersion;
            lastRunCount = other.lastRunCount;
            for (int i = 0; i < MAX_CELLS; i++) {
                cells[i].copyFrom(other.cells[i]);
                lastRunCells[i] = other.lastRunCells[i];
            }
        }

        void append(int variable, int operator, int left, int right) {
            if (count >= MAX_CELLS) {
                return;
            }
            Cell added = cells[count];
            added.define(variable, operator, left, right);
            added.runs = 0;
            count++;
        }

        void remove(int cell) {
            move(cell, count - 1);
            count--;
        }

        void move(int cell, int target) {
            Cell moved = cells[cell];
            for (int i = cell; i < target; i++) {
                cells[i] = cells[i + 1];
            }
            for (int i = cell; i > target; i--) {
                cells[i] = cells[i - 1];
            }
            cells[target] = moved;
        }

        void recordRun(int cell) {
            totalRuns++;
            if (lastRunCount < MAX_CELLS) {
                lastRunCells[lastRunCount] = cell;
                lastRunCount++;
            }
        }
    }

    /** What follows from the definitions of the cells alone. Sets of cells are bit masks. */
    private static final class Graph {
        final int[] definers = new int[VARIABLES];
        /** By variable: the cell that alone defines it, NO_CELL if there is none or more than one. */
        final int[] soleDefiners = new int[VARIABLES];
        final int[] dependencies = new int[MAX_CELLS];
        /** The direct and the indirect ones. */
        final int[] allDependencies = new int[MAX_CELLS];
        final int[] staticErrors = new int[MAX_CELLS];
        final int[] runOrder = new int[MAX_CELLS];
        int runnableCount = 0;

        Graph() {
            clearDefiners();
        }

        void derive(State state) {
            findDefiners(state);
            findDependencies(state);
            closeDependencies(state.count);
            findStaticErrors(state);
            buildRunOrder(state.count);
        }

        /** NO_CELL for a constant, and for a variable that not exactly one cell defines. */
        int soleDefinerOf(int operand) {
            return isVariableOperand(operand) ? soleDefiners[operand - FIRST_VARIABLE_OPERAND] : NO_CELL;
        }

        private int definersOf(int operand) {
            return isVariableOperand(operand) ? definers[operand - FIRST_VARIABLE_OPERAND] : NO_CELLS;
        }

        private void clearDefiners() {
            for (int variable = 0; variable < VARIABLES; variable++) {
                definers[variable] = NO_CELLS;
                soleDefiners[variable] = NO_CELL;
            }
        }

        private void findDefiners(State state) {
            clearDefiners();
            for (int cell = 0; cell < state.count; cell++) {
                int variable = state.cells[cell].variable;
                if (isVariable(variable)) {
                    soleDefiners[variable] = definers[variable] == NO_CELLS ? cell : NO_CELL;
                    definers[variable] |= 1 << cell;
                }
            }
        }

        private void findDependencies(State state) {
            for (int cell = 0; cell < state.count; cell++) {
                dependencies[cell] = dependencyOn(state.cells[cell].left) | dependencyOn(state.cells[cell].right);
            }
        }

        private int dependencyOn(int operand) {
            int definer = soleDefinerOf(operand);
            return definer == NO_CELL ? NO_CELLS : 1 << definer;
        }

        private void closeDependencies(int count) {
            for (int cell = 0; cell < count; cell++) {
                allDependencies[cell] = dependencies[cell];
            }
            // Once a cell has been the one between, every path that leads over it is known (Warshall).
            for (int between = 0; between < count; between++) {
                for (int cell = 0; cell < count; cell++) {
                    if (contains(allDependencies[cell], between)) {
                        allDependencies[cell] |= allDependencies[between];
                    }
                }
            }
        }

        private void findStaticErrors(State state) {
            int faulty = NO_CELLS;
            for (int cell = 0; cell < state.count; cell++) {
                staticErrors[cell] = ownError(state.cells[cell], cell);
                if (staticErrors[cell] != NO_ERROR) {
                    faulty |= 1 << cell;
                }
            }
            spreadBadInput(state, faulty);
        }

        /** The static error that a cell has of itself, whatever errors other cells have. */
        private int ownError(Cell cell, int index) {
            if (soleDefinerOf(FIRST_VARIABLE_OPERAND + cell.variable) != index) {
                return MULTIPLE;
            }
            if (contains(allDependencies[index], index)) {
                return CYCLE;
            }
            return isUndefined(cell.left) || isUndefined(cell.right) ? UNDEFINED : NO_ERROR;
        }

        private boolean isUndefined(int operand) {
            return isVariableOperand(operand) && definersOf(operand) == NO_CELLS;
        }

        private void spreadBadInput(State state, int ownFaulty) {
            int faulty = ownFaulty;
            // Each round takes an error at least one cell further, and no chain is longer than the notebook.
            for (int round = 0; round < state.count; round++) {
                for (int cell = 0; cell < state.count; cell++) {
                    int used = definersOf(state.cells[cell].left) | definersOf(state.cells[cell].right);
                    if (staticErrors[cell] == NO_ERROR && (used & faulty) != 0) {
                        staticErrors[cell] = BAD_INPUT;
                        faulty |= 1 << cell;
                    }
                }
            }
        }

        private void buildRunOrder(int count) {
            int placed = NO_CELLS;
            runnableCount = 0;
            for (int position = 0; position < count; position++) {
                int next = lowestReady(count, placed);
                if (next == NO_CELL) {
                    return;
                }
                runOrder[position] = next;
                runnableCount = position + 1;
                placed |= 1 << next;
            }
        }

        private int lowestReady(int count, int placed) {
            for (int cell = 0; cell < count; cell++) {
                boolean ready = (dependencies[cell] & ~placed) == 0;
                if (staticErrors[cell] == NO_ERROR && !contains(placed, cell) && ready) {
                    return cell;
                }
            }
            return NO_CELL;
        }
    }
}
