import java.util.ArrayList;
import java.util.HashMap;
import java.util.List;
import java.util.Map;
import java.util.Set;
import java.util.TreeSet;

/**
 * The document's words taken one by one, with lists and recursion and nothing kept that can be asked anew.
 * It shares no code with the program, so that the two can be compared.
 */
final class PlainModel {
    static final int NONE = -10001, INVALID = -10002, REJECTED = -10003, FULL = -10004;
    static final int FRESH = 0, STALE = 1, MULTIPLE = 2, CYCLE = 3, UNDEFINED = 4, BAD_INPUT = 5, OVERFLOW = 6, ZERO_DIVISION = 7;

    /** A result: a value, or (error not 0) an error. */
    record Result(int value, int error) { }

    static final class Cell {
        int variable, operator, left, right;
        Result result = null;
        int version = 0;
        /** The version used by the latest run, by operand. */
        Map<Integer, Integer> recorded = new HashMap<>();
        int runs = 0;

        Cell copy() {
            Cell copy = new Cell();
            copy.variable = variable;
            copy.operator = operator;
            copy.left = left;
            copy.right = right;
            copy.result = result;
            copy.version = version;
            copy.recorded = new HashMap<>(recorded);
            copy.runs = runs;
            return copy;
        }
    }

    static final class Notebook {
        List<Cell> cells = new ArrayList<>();
        boolean eager = false;
        int totalRuns = 0;
        int greatestVersion = 0;
        List<Integer> lastRun = new ArrayList<>();

        Notebook copy() {
            Notebook copy = new Notebook();
            for (Cell cell : cells) {
                copy.cells.add(cell.copy());
            }
            copy.eager = eager;
            copy.totalRuns = totalRuns;
            copy.greatestVersion = greatestVersion;
            copy.lastRun = new ArrayList<>(lastRun);
            return copy;
        }
    }

    private Notebook now = new Notebook();
    private final List<Notebook> saved = new ArrayList<>();
    private final int[] errors = new int[3];

    // ---- editing

    int addCell(int variable, int operator, int left, int right) {
        if (badDefinition(variable, operator, left, right)) {
            return invalid();
        }
        if (now.cells.size() == 12) {
            errors[2]++;
            return FULL;
        }
        save();
        now.cells.add(newCell(variable, operator, left, right));
        endEditing();
        return now.cells.size() - 1;
    }

    int editCell(int cell, int variable, int operator, int left, int right) {
        if (noCell(cell) || badDefinition(variable, operator, left, right)) {
            return invalid();
        }
        save();
        Cell before = now.cells.get(cell);
        Cell after = newCell(variable, operator, left, right);
        after.runs = before.runs;
        now.cells.set(cell, after);
        endEditing();
        return before.variable;
    }

    int deleteCell(int cell) {
        if (noCell(cell)) {
            return invalid();
        }
        save();
        now.cells.remove(cell);
        endEditing();
        return now.cells.size();
    }

    int moveCell(int cell, int target) {
        if (noCell(cell) || noCell(target)) {
            return invalid();
        }
        save();
        List<Cell> before = new ArrayList<>(now.cells);
        now.cells.add(target, now.cells.remove(cell));
        int changed = 0;
        for (int i = 0; i < before.size(); i++) {
            changed += before.get(i) == now.cells.get(i) ? 0 : 1;
        }
        endEditing();
        return changed;
    }

    int setEager(int eager) {
        if (eager < 0 || eager > 1) {
            return invalid();
        }
        save();
        int before = now.eager ? 1 : 0;
        now.eager = eager == 1;
        endEditing();
        return before;
    }

    private static Cell newCell(int variable, int operator, int left, int right) {
        Cell cell = new Cell();
        cell.variable = variable;
        cell.operator = operator;
        cell.left = left;
        cell.right = right;
        return cell;
    }

    private void endEditing() {
        now.lastRun.clear();
        if (now.eager) {
            runStaleAmong(allCells());
        }
    }

    // ---- running

    int runStale() {
        save();
        now.lastRun.clear();
        runStaleAmong(allCells());
        return now.lastRun.size();
    }

    int runCell(int cell) {
        if (noCell(cell)) {
            return invalid();
        }
        if (staticError(cell) != 0) {
            errors[1]++;
            return REJECTED;
        }
        save();
        now.lastRun.clear();
        Set<Integer> wanted = reachable(cell);
        wanted.add(cell);
        runStaleAmong(wanted);
        return now.lastRun.size();
    }

    int lastRunCount() {
        return now.lastRun.size();
    }

    int lastRun(int index) {
        return index < 0 ? invalid() : index >= now.lastRun.size() ? NONE : now.lastRun.get(index);
    }

    private void runStaleAmong(Set<Integer> wanted) {
        for (int cell : order()) {
            if (wanted.contains(cell) && !fresh(cell)) {
                run(cell);
            }
        }
    }

    private void run(int index) {
        Cell cell = now.cells.get(index);
        Result result = compute(cell);
        if (cell.result == null || !cell.result.equals(result)) {
            now.greatestVersion = now.greatestVersion + 1;
            cell.version = now.greatestVersion;
        }
        cell.result = result;
        cell.recorded.clear();
        for (int operand : new int[] {cell.left, cell.right}) {
            if (operand >= 100) {
                cell.recorded.put(operand, definerCell(operand).version);
            }
        }
        cell.runs++;
        now.totalRuns++;
        now.lastRun.add(index);
    }

    private Result compute(Cell cell) {
        for (int operand : new int[] {cell.left, cell.right}) {
            if (operand >= 100 && definerCell(operand).result.error() != 0) {
                return new Result(0, BAD_INPUT);
            }
        }
        long left = operandValue(cell.left);
        long right = operandValue(cell.right);
        if (cell.operator == 3 && right == 0) {
            return new Result(0, ZERO_DIVISION);
        }
        long exact = switch (cell.operator) {
            case 0 -> left + right;
            case 1 -> left - right;
            case 2 -> left * right;
            case 3 -> Long.signum(left) * Long.signum(right) * (Math.abs(left) / Math.abs(right));
            case 4 -> left > right ? left : right;
            default -> left < right ? left : right;
        };
        return Math.abs(exact) > 9999 ? new Result(0, OVERFLOW) : new Result((int) exact, 0);
    }

    private long operandValue(int operand) {
        return operand < 100 ? operand : definerCell(operand).result.value();
    }

    private Cell definerCell(int operand) {
        return now.cells.get(definerList(operand - 100).get(0));
    }

    // ---- cells

    int cellCount() {
        return now.cells.size();
    }

    int variable(int cell) {
        return noCell(cell) ? invalid() : now.cells.get(cell).variable;
    }

    int status(int cell) {
        if (noCell(cell)) {
            return invalid();
        }
        int error = staticError(cell);
        return error != 0 ? error : !fresh(cell) ? STALE : now.cells.get(cell).result.error();
    }

    int value(int cell) {
        if (noCell(cell)) {
            return invalid();
        }
        return status(cell) == FRESH ? now.cells.get(cell).result.value() : NONE;
    }

    int valueOf(int variable) {
        if (variable < 0 || variable > 9) {
            return invalid();
        }
        List<Integer> definers = definerList(variable);
        return definers.size() == 1 ? value(definers.get(0)) : NONE;
    }

    int version(int cell) {
        return noCell(cell) ? invalid() : now.cells.get(cell).version;
    }

    int runs(int cell) {
        return noCell(cell) ? invalid() : now.cells.get(cell).runs;
    }

    int totalRuns() {
        return now.totalRuns;
    }

    // ---- graph

    int dependencies(int cell) {
        return noCell(cell) ? invalid() : mask(dependencySet(cell));
    }

    int dependents(int cell) {
        if (noCell(cell)) {
            return invalid();
        }
        Set<Integer> found = new TreeSet<>();
        for (int other : allCells()) {
            if (reachable(other).contains(cell)) {
                found.add(other);
            }
        }
        return mask(found);
    }

    int definers(int variable) {
        return variable < 0 || variable > 9 ? invalid() : mask(new TreeSet<>(definerList(variable)));
    }

    int runnableCount() {
        return order().size();
    }

    int runOrder(int index) {
        List<Integer> order = order();
        return index < 0 ? invalid() : index >= order.size() ? NONE : order.get(index);
    }

    int staleCount() {
        int stale = 0;
        for (int cell : allCells()) {
            stale += staticError(cell) == 0 && !fresh(cell) ? 1 : 0;
        }
        return stale;
    }

    private List<Integer> definerList(int variable) {
        List<Integer> found = new ArrayList<>();
        for (int cell : allCells()) {
            if (now.cells.get(cell).variable == variable) {
                found.add(cell);
            }
        }
        return found;
    }

    private Set<Integer> usedVariables(int cell) {
        Set<Integer> used = new TreeSet<>();
        for (int operand : new int[] {now.cells.get(cell).left, now.cells.get(cell).right}) {
            if (operand >= 100) {
                used.add(operand - 100);
            }
        }
        return used;
    }

    private Set<Integer> dependencySet(int cell) {
        Set<Integer> found = new TreeSet<>();
        for (int variable : usedVariables(cell)) {
            if (definerList(variable).size() == 1) {
                found.addAll(definerList(variable));
            }
        }
        return found;
    }

    private Set<Integer> reachable(int cell) {
        Set<Integer> found = new TreeSet<>();
        List<Integer> open = new ArrayList<>(dependencySet(cell));
        while (!open.isEmpty()) {
            int next = open.remove(open.size() - 1);
            if (found.add(next)) {
                open.addAll(dependencySet(next));
            }
        }
        return found;
    }

    /** 0 if the cell has none. Ends: a cell on a cycle answers before it asks for others. */
    private int staticError(int cell) {
        if (definerList(now.cells.get(cell).variable).size() > 1) {
            return MULTIPLE;
        }
        if (reachable(cell).contains(cell)) {
            return CYCLE;
        }
        for (int variable : usedVariables(cell)) {
            if (definerList(variable).isEmpty()) {
                return UNDEFINED;
            }
        }
        for (int variable : usedVariables(cell)) {
            for (int definer : definerList(variable)) {
                if (staticError(definer) != 0) {
                    return BAD_INPUT;
                }
            }
        }
        return 0;
    }

    private boolean fresh(int index) {
        Cell cell = now.cells.get(index);
        if (cell.result == null) {
            return false;
        }
        for (int variable : usedVariables(index)) {
            int definer = definerList(variable).get(0);
            int recorded = cell.recorded.getOrDefault(variable + 100, -1);
            if (!fresh(definer) || now.cells.get(definer).version != recorded) {
                return false;
            }
        }
        return true;
    }

    private List<Integer> order() {
        List<Integer> order = new ArrayList<>();
        boolean grown = true;
        while (grown) {
            grown = false;
            for (int cell : allCells()) {
                if (staticError(cell) == 0 && !order.contains(cell) && order.containsAll(dependencySet(cell))) {
                    order.add(cell);
                    grown = true;
                    break;
                }
            }
        }
        return order;
    }

    private Set<Integer> allCells() {
        Set<Integer> all = new TreeSet<>();
        for (int i = 0; i < now.cells.size(); i++) {
            all.add(i);
        }
        return all;
    }

    private static int mask(Set<Integer> cells) {
        int mask = 0;
        for (int cell : cells) {
            mask += 1 << cell;
        }
        return mask;
    }

    // ---- undo and errors

    int undo() {
        if (saved.isEmpty()) {
            errors[1]++;
            return REJECTED;
        }
        now = saved.remove(saved.size() - 1);
        return saved.size();
    }

    int errorCount(int kind) {
        return kind < 0 || kind > 2 ? invalid() : errors[kind];
    }

    long digest() {
        List<Integer> values = new ArrayList<>(List.of(errors[0], errors[1], errors[2], saved.size()));
        values.addAll(List.of(now.eager ? 1 : 0, now.totalRuns, now.lastRun.size()));
        values.addAll(now.lastRun);
        values.add(cellCount());
        for (int i : allCells()) {
            Cell cell = now.cells.get(i);
            values.addAll(List.of(cell.variable, cell.operator, cell.left, cell.right));
            values.addAll(List.of(status(i), value(i), version(i), runs(i), dependencies(i), dependents(i)));
        }
        List<Integer> order = order();
        values.add(order.size());
        values.addAll(order);
        long h = 11872;
        for (int v : values) {
            h = 31 * h + v;
        }
        return h;
    }

    private void save() {
        saved.add(now.copy());
        if (saved.size() > 4) {
            saved.remove(0);
        }
    }

    private int invalid() {
        errors[0]++;
        return INVALID;
    }

    private boolean noCell(int cell) {
        return cell < 0 || cell >= now.cells.size();
    }

    private static boolean badDefinition(int variable, int operator, int left, int right) {
        return variable < 0 || variable > 9 || operator < 0 || operator > 5
            || left < 0 || left > 109 || right < 0 || right > 109;
    }
}
