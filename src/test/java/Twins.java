/** Two notebooks that have to be alike: in all that they answer, and in what the same calls make of them. */
final class Twins {
    /** A call, or a few of them, of which the last one's answer is told. */
    interface Call {
        long on(ReactiveNotebook x);
    }

    /** What is not seen at once (saved states, mode, recorded versions, greatest version) shows behind these. */
    private static final Call[][] FOLLOWING = {
        {x -> x.undo(), x -> x.undo(), x -> x.undo(), x -> x.undo(), x -> x.undo()},
        {x -> x.runStale(), x -> x.addCell(9, 4, 100, 1), x -> x.runStale(), x -> x.undo()},
        {x -> x.editCell(0, 0, 0, 55, 1), x -> x.runCell(x.cellCount() - 1), x -> x.runStale(), x -> x.deleteCell(0)},
        {x -> x.deleteCell(0), x -> x.runStale(), x -> x.addCell(0, 0, 1, 1), x -> x.runStale()},
        {x -> x.moveCell(0, x.cellCount() - 1), x -> x.undo(), x -> x.undo(), x -> x.runStale()},
        {x -> x.setEager(1), x -> x.addCell(0, 1, 99, 98), x -> x.editCell(0, 8, 0, 1, 1), x -> x.setEager(0)}};

    static void alike(Checks checks, String claim, Notebooks.Recipe one, Notebooks.Recipe other) {
        checks.same(claim + ": all answers", answers(one.make()), answers(other.make()));
        for (int i = 0; i < FOLLOWING.length; i++) {
            ReactiveNotebook x = one.make();
            ReactiveNotebook y = other.make();
            for (int k = 0; k < FOLLOWING[i].length; k++) {
                String where = claim + ": row " + i + " of calls that follow, call " + k;
                checks.due(where, FOLLOWING[i][k].on(x), FOLLOWING[i][k].on(y));
                checks.same(where + ", all answers", answers(x), answers(y));
            }
        }
    }

    /** The call is refused by notebooks of very different states. */
    static void refused(Checks checks, String claim, Call call, int code) {
        for (int i = 0; i < Notebooks.RECIPES.length; i++) {
            refusedBy(checks, claim + " on notebook " + i, Notebooks.RECIPES[i], call, code);
        }
    }

    /** The call answers the code, counts one error of its kind, and changes nothing else. */
    static void refusedBy(Checks checks, String claim, Notebooks.Recipe recipe, Call call, int code) {
        ReactiveNotebook before = recipe.make();
        ReactiveNotebook after = recipe.make();
        checks.due(claim, call.on(after), code);
        int kind = ReactiveNotebook.INVALID - code;
        for (int k = 0; k < 3; k++) {
            checks.due(claim + ": errorCount(" + k + ")", after.errorCount(k), before.errorCount(k) + (k == kind ? 1 : 0));
        }
        checks.due(claim + ": digest()", after.digest(), before.digest() + weightOfErrorCount(before, kind));
        alike(checks, claim, () -> {
            ReactiveNotebook x = recipe.make();
            call.on(x);
            return x;
        }, recipe);
    }

    /** By how much the digest grows when the counter of this kind grows by 1 and nothing else changes. */
    private static long weightOfErrorCount(ReactiveNotebook x, int kind) {
        int valuesBehind = 2 - kind + 4 + x.lastRunCount() + 1 + 10 * x.cellCount() + 1 + x.runnableCount();
        long weight = 1;
        for (int i = 0; i < valuesBehind; i++) {
            weight *= 31;
        }
        return weight;
    }

    /** Every answer that can be asked for without an error, but the error counters and the digest. */
    static String answers(ReactiveNotebook x) {
        StringBuilder text = new StringBuilder();
        text.append("counts ").append(x.cellCount()).append(' ').append(x.totalRuns()).append(' ')
            .append(x.runnableCount()).append(' ').append(x.staleCount());
        text.append(" last run");
        for (int i = 0; i <= x.lastRunCount(); i++) {
            text.append(' ').append(x.lastRun(i));
        }
        text.append(" run order");
        for (int i = 0; i <= x.runnableCount(); i++) {
            text.append(' ').append(x.runOrder(i));
        }
        for (int variable = 0; variable < 10; variable++) {
            text.append(" v").append(variable).append(' ').append(x.definers(variable)).append(' ').append(x.valueOf(variable));
        }
        for (int cell = 0; cell < x.cellCount(); cell++) {
            text.append(" cell").append(cell).append(' ').append(x.variable(cell)).append(' ').append(x.status(cell))
                .append(' ').append(x.value(cell)).append(' ').append(x.version(cell)).append(' ').append(x.runs(cell))
                .append(' ').append(x.dependencies(cell)).append(' ').append(x.dependents(cell));
        }
        return text.toString();
    }

    private Twins() { }
}
