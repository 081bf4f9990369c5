/**
 * Long runs of calls, made by a fixed sequence of numbers, on the program and on PlainModel: every answer is
 * compared, and the digest after every call.
 */
final class ModelTests {
    private static final int RUNS = 600;
    private static final int STEPS = 128;
    private static final int[] EDGES = {
        Integer.MIN_VALUE, Integer.MIN_VALUE + 1, -10002, -101, -100, -1, 0, 1, 2, 3, 5, 6, 9, 10, 11, 12, 13,
        31, 32, 33, 99, 100, 109, 110, 111, Integer.MAX_VALUE - 1, Integer.MAX_VALUE};
    private static final Checks checks = new Checks("ModelTests");

    private long seed;
    private final int run;
    private final ReactiveNotebook program = new ReactiveNotebook();
    private final PlainModel model = new PlainModel();

    private ModelTests(int run) {
        this.run = run;
        this.seed = run * 7919L + 17;
    }

    public static void main(String[] args) {
        edgeArguments();
        for (int run = 0; run < RUNS && !checks.anyWrong(); run++) {
            new ModelTests(run).go();
        }
        checks.finish();
    }

    private int below(int bound) {
        seed = seed * 6364136223846793005L + 1442695040888963407L;
        return (int) ((seed >>> 33) % bound);
    }

    private void go() {
        for (int step = 0; step < STEPS && !checks.anyWrong(); step++) {
            step();
            compare("digest()", program.digest(), model.digest());
            if (step % 8 == 0) {
                compareEveryAnswer();
            }
        }
    }

    private void step() {
        int kind = below(100);
        if (kind < 35) {
            addOrEdit();
        } else if (kind < 44) {
            int cell = someCell();
            compare("deleteCell(" + cell + ")", program.deleteCell(cell), model.deleteCell(cell));
        } else if (kind < 54) {
            int cell = someCell();
            int target = someCell();
            compare("moveCell(" + cell + ", " + target + ")", program.moveCell(cell, target), model.moveCell(cell, target));
        } else if (kind < 59) {
            int eager = below(20) == 0 ? 2 : below(3) == 0 ? 1 : 0;
            compare("setEager(" + eager + ")", program.setEager(eager), model.setEager(eager));
        } else if (kind < 72) {
            compare("runStale()", program.runStale(), model.runStale());
        } else if (kind < 86) {
            int cell = someCell();
            compare("runCell(" + cell + ")", program.runCell(cell), model.runCell(cell));
        } else {
            compare("undo()", program.undo(), model.undo());
        }
    }

    private void addOrEdit() {
        // Some runs have few variables (errors of many kinds), some all of them (long chains that run).
        int variables = run % 3 == 0 ? 4 : run % 3 == 1 ? 7 : 10;
        int variable = below(40) == 0 ? 10 - 11 * below(2) : below(variables);
        int operator = below(40) == 0 ? 6 - 7 * below(2) : below(6);
        int left = operand(variable, variables);
        int right = operand(variable, variables);
        if (below(3) == 0 || program.cellCount() < 4) {
            compare("addCell(" + variable + ", " + operator + ", " + left + ", " + right + ")",
                program.addCell(variable, operator, left, right), model.addCell(variable, operator, left, right));
        } else {
            int cell = someCell();
            compare("editCell(" + cell + ", " + variable + ", " + operator + ", " + left + ", " + right + ")",
                program.editCell(cell, variable, operator, left, right), model.editCell(cell, variable, operator, left, right));
        }
    }

    private int operand(int variable, int variables) {
        int kind = below(60);
        if (kind == 0) {
            return 110 - 111 * below(2);
        }
        if (kind < 25) {
            return below(4) == 0 ? below(3) : below(100);
        }
        // Mostly a variable with a lower number, else hardly anything could run.
        return 100 + (kind < 52 ? below(Math.max(1, variable)) : below(variables));
    }

    private int someCell() {
        int count = program.cellCount();
        return below(25) == 0 ? (below(2) == 0 ? -1 : count) : below(Math.max(1, count));
    }

    private void compare(String call, long got, long want) {
        checks.due("run " + run + ": " + call, got, want);
    }

    private void compareEveryAnswer() {
        for (int i = -1; i <= 13; i++) {
            compareAnswersFor(i);
        }
        compareCounts();
    }

    private void compareCounts() {
        compare("lastRunCount()", program.lastRunCount(), model.lastRunCount());
        compare("cellCount()", program.cellCount(), model.cellCount());
        compare("totalRuns()", program.totalRuns(), model.totalRuns());
        compare("runnableCount()", program.runnableCount(), model.runnableCount());
        compare("staleCount()", program.staleCount(), model.staleCount());
    }

    private void compareAnswersFor(int i) {
        compare("lastRun(" + i + ")", program.lastRun(i), model.lastRun(i));
        compare("variable(" + i + ")", program.variable(i), model.variable(i));
        compare("status(" + i + ")", program.status(i), model.status(i));
        compare("value(" + i + ")", program.value(i), model.value(i));
        compare("valueOf(" + i + ")", program.valueOf(i), model.valueOf(i));
        compare("version(" + i + ")", program.version(i), model.version(i));
        compare("runs(" + i + ")", program.runs(i), model.runs(i));
        compare("dependencies(" + i + ")", program.dependencies(i), model.dependencies(i));
        compare("dependents(" + i + ")", program.dependents(i), model.dependents(i));
        compare("definers(" + i + ")", program.definers(i), model.definers(i));
        compare("runOrder(" + i + ")", program.runOrder(i), model.runOrder(i));
        compare("errorCount(" + i + ")", program.errorCount(i), model.errorCount(i));
    }

    /** Every call with every edge number as each of its arguments, on an empty, a small and a full notebook. */
    private static void edgeArguments() {
        for (int cells = 0; cells <= 12; cells += 4) {
            ModelTests test = new ModelTests(-1 - cells);
            for (int i = 0; i < cells; i++) {
                test.compare("addCell", test.program.addCell(i % 10, i % 6, i, 100), test.model.addCell(i % 10, i % 6, i, 100));
            }
            for (int edge : EDGES) {
                test.compareAnswersFor(edge);
                test.compareEditsFor(edge);
            }
        }
    }

    private void compareEditsFor(int edge) {
        String with = " with " + edge;
        compare("addCell variable" + with, program.addCell(edge, 0, 1, 2), model.addCell(edge, 0, 1, 2));
        compare("addCell operator" + with, program.addCell(1, edge, 1, 2), model.addCell(1, edge, 1, 2));
        compare("addCell left" + with, program.addCell(1, 0, edge, 2), model.addCell(1, 0, edge, 2));
        compare("addCell right" + with, program.addCell(1, 0, 1, edge), model.addCell(1, 0, 1, edge));
        compare("editCell cell" + with, program.editCell(edge, 1, 0, 1, 2), model.editCell(edge, 1, 0, 1, 2));
        compare("editCell variable" + with, program.editCell(0, edge, 0, 1, 2), model.editCell(0, edge, 0, 1, 2));
        compare("editCell operator" + with, program.editCell(0, 1, edge, 1, 2), model.editCell(0, 1, edge, 1, 2));
        compare("editCell left" + with, program.editCell(0, 1, 0, edge, 2), model.editCell(0, 1, 0, edge, 2));
        compare("editCell right" + with, program.editCell(0, 1, 0, 1, edge), model.editCell(0, 1, 0, 1, edge));
        compare("moveCell cell" + with, program.moveCell(edge, 0), model.moveCell(edge, 0));
        compare("moveCell target" + with, program.moveCell(0, edge), model.moveCell(0, edge));
        compare("setEager" + with, program.setEager(edge), model.setEager(edge));
        compare("runCell" + with, program.runCell(edge), model.runCell(edge));
        compare("deleteCell" + with, program.deleteCell(edge), model.deleteCell(edge));
        compare("digest()" + with, program.digest(), model.digest());
    }
}
