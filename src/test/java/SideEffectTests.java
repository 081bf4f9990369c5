/** What calls leave as it is: queries all, successful calls the error counters and the mode, objects one another. */
final class SideEffectTests {
    private static final int ADD = 0, DIVIDE = 3;
    private static final Checks checks = new Checks("SideEffectTests");

    /** Notebooks of at least four cells and three states on the undo stack, on which every query below succeeds. */
    private static final Notebooks.Recipe[] RECIPES = {
        Notebooks::busy, Notebooks::eager, Notebooks::full, SideEffectTests::fullAndStale};

    private static final Twins.Call[] QUERIES = {
        x -> x.lastRunCount(), x -> x.lastRun(0), x -> x.lastRun(12), x -> x.cellCount(), x -> x.variable(3),
        x -> x.status(0), x -> x.status(3), x -> x.value(0), x -> x.value(3), x -> x.valueOf(0), x -> x.valueOf(9),
        x -> x.version(0), x -> x.version(3), x -> x.runs(0), x -> x.runs(3), x -> x.totalRuns(),
        x -> x.dependencies(3), x -> x.dependents(0), x -> x.definers(0), x -> x.definers(9), x -> x.runnableCount(),
        x -> x.runOrder(0), x -> x.runOrder(12), x -> x.staleCount(), x -> x.errorCount(0), x -> x.errorCount(1),
        x -> x.errorCount(2), x -> x.digest()};

    /** With the queries, whose answers are looked at too, these show every part of the state. */
    private static final Twins.Call[] CHANGES = {
        x -> x.setEager(0), x -> x.undo(), x -> x.runStale(), x -> x.runCell(x.runOrder(0)),
        x -> {
            x.editCell(3, 3, ADD, 7, 8);
            x.runCell(3);
            return x.version(3);
        },
        x -> {
            x.undo();
            x.undo();
            x.undo();
            return x.digest();
        }};

    public static void main(String[] args) {
        queriesChangeNothing();
        successesKeepErrorCounters();
        onlySetEagerSetsTheMode();
        objectsShareNothing();
        objectsShareNoUndoStack();
        checks.finish();
    }

    /** 12 cells of which nine can be run: a last run of three of them, and six that are stale. */
    private static ReactiveNotebook fullAndStale() {
        ReactiveNotebook x = Notebooks.full();
        x.editCell(0, 0, ADD, 50, 5);
        x.runCell(2);
        return x;
    }

    private static void queriesChangeNothing() {
        checks.sentence("Not promised", "Nothing is promised beyond the answers and state changes described above");
        for (int recipe = 0; recipe < RECIPES.length; recipe++) {
            for (int query = 0; query < QUERIES.length; query++) {
                String claim = "notebook " + recipe + ", behind query " + query + ": ";
                sameBehind(claim + "query ", RECIPES[recipe], QUERIES[query], QUERIES);
                sameBehind(claim + "change ", RECIPES[recipe], QUERIES[query], CHANGES);
            }
        }
    }

    /** One call is looked at on each notebook, so that a call with a side effect cannot cover another one's. */
    private static void sameBehind(String claim, Notebooks.Recipe recipe, Twins.Call query, Twins.Call[] looks) {
        for (int i = 0; i < looks.length; i++) {
            ReactiveNotebook asked = recipe.make();
            query.on(asked);
            checks.due(claim + i, looks[i].on(asked), looks[i].on(recipe.make()));
        }
    }

    private static final Twins.Call[] SUCCESSES = {
        x -> x.addCell(5, ADD, 1, 1), x -> x.editCell(0, 6, ADD, 1, 1), x -> x.deleteCell(0), x -> x.moveCell(0, 1),
        x -> x.setEager(0), x -> x.setEager(1), x -> x.runStale(), x -> x.runCell(2), x -> x.undo()};

    /** Three cells of which the last can be run; one INVALID, two REJECTED and three FULL were counted. */
    private static ReactiveNotebook withErrors() {
        ReactiveNotebook x = Notebooks.rivals(12);
        x.deleteCell(12);
        x.runCell(0);
        x.runCell(1);
        for (int i = 0; i < 3; i++) {
            x.addCell(0, ADD, 1, 1);
        }
        for (int i = 0; i < 10; i++) {
            x.deleteCell(0);
        }
        x.addCell(1, ADD, 3, 3);
        return x;
    }

    private static void successesKeepErrorCounters() {
        checks.sentence("Promise 26", "Returns the number of failed calls of that kind");
        for (int call = 0; call < SUCCESSES.length; call++) {
            ReactiveNotebook x = withErrors();
            checks.holds("call " + call + " succeeds", SUCCESSES[call].on(x) >= 0);
            for (int kind = 0; kind < 3; kind++) {
                checks.due("call " + call + ": errorCount(" + kind + ")", x.errorCount(kind), kind + 1);
            }
        }
    }

    private static void onlySetEagerSetsTheMode() {
        checks.sentence("Promise 6", "Returns the previous mode");
        for (int call = 0; call < SUCCESSES.length; call++) {
            if (call == 4 || call == 5) {
                continue;
            }
            for (int mode = 0; mode < 2; mode++) {
                ReactiveNotebook x = withErrors();
                x.setEager(mode);
                x.moveCell(2, 2);
                SUCCESSES[call].on(x);
                checks.due("mode " + mode + " behind call " + call, x.setEager(0), mode);
            }
        }
    }

    private static void objectsShareNothing() {
        checks.sentence("Promise 1", "Creates an empty notebook in non-eager mode with an empty undo stack.");
        long alone = answersOf(new ReactiveNotebook(), new ReactiveNotebook(), false);
        long byTurns = answersOf(new ReactiveNotebook(), new ReactiveNotebook(), true);
        checks.due("the answers of one whose calls take turns with another's", byTurns, alone);
        long before = new ReactiveNotebook().digest();
        Notebooks.busy();
        Notebooks.eager();
        checks.due("digest() of a new object behind others", new ReactiveNotebook().digest(), before);
    }

    /** A hash of what x answers to a row of calls; with turns, other is called between them. */
    private static long answersOf(ReactiveNotebook x, ReactiveNotebook other, boolean turns) {
        long hash = 7;
        for (int i = 0; i < 40; i++) {
            hash = 31 * hash + callOf(x, i);
            if (turns) {
                callOf(other, 39 - i);
                other.addCell(i % 10, DIVIDE, 100 + i % 7, i % 3);
            }
            hash = 31 * hash + x.digest();
        }
        return hash;
    }

    private static long callOf(ReactiveNotebook x, int i) {
        switch (i % 8) {
            case 0: return x.addCell(i % 10, ADD, i, 1);
            case 1: return x.addCell((i + 3) % 10, ADD, 100 + i % 10, 1);
            case 2: return x.runStale();
            case 3: return x.editCell(0, i % 10, ADD, i, 2);
            case 4: return x.setEager(i / 8 % 2);
            case 5: return x.undo();
            case 6: return x.moveCell(0, 1);
            default: return x.runCell(i / 8);
        }
    }

    private static void objectsShareNoUndoStack() {
        checks.sentence("Promise 1", "Creates an empty notebook in non-eager mode with an empty undo stack.");
        ReactiveNotebook x = Notebooks.constants(6);
        ReactiveNotebook y = Notebooks.rivals(3);
        for (int left = 3; left >= 0; left--) {
            checks.due("undo() of the one", x.undo(), left);
            checks.due("its cells", x.cellCount(), left + 2);
            checks.due("its last cell", x.variable(left + 1), left + 1);
        }
        for (int left = 2; left >= 0; left--) {
            checks.due("undo() of the other", y.undo(), left);
            checks.due("its cells", y.cellCount(), left);
        }
    }
}
