/** Notebooks that the tests of boundary cases begin with; each call makes a new one. */
final class Notebooks {
    static final int ADD = 0, SUBTRACT = 1, MULTIPLY = 2, DIVIDE = 3, MAXIMUM = 4, MINIMUM = 5;
    /** The variable of the last cell of computed(). */
    static final int COMPUTED = 8;

    /** Makes a notebook; two that the same recipe makes are alike. */
    interface Recipe {
        ReactiveNotebook make();
    }

    /** Notebooks of very different states, for a call that is refused by all of them. */
    static final Recipe[] RECIPES = {ReactiveNotebook::new, Notebooks::busy, Notebooks::eager, Notebooks::full};

    /** This many cells that define one variable each, and use none. */
    static ReactiveNotebook constants(int cells) {
        ReactiveNotebook x = new ReactiveNotebook();
        for (int i = 0; i < cells; i++) {
            x.addCell(i, ADD, i, 10);
        }
        return x;
    }

    /** Cell i defines variable i by the variable before, plus 1; cell 0 defines variable 0 as 2. Nothing is run. */
    static ReactiveNotebook chain(int cells) {
        ReactiveNotebook x = new ReactiveNotebook();
        addChain(x, cells);
        return x;
    }

    static void addChain(ReactiveNotebook x, int cells) {
        for (int i = 0; i < cells; i++) {
            x.addCell(i, ADD, i == 0 ? 1 : 99 + i, 1);
        }
    }

    /** Cell i defines variable i by the variable after, plus 1; the last cell uses none. Nothing is run. */
    static ReactiveNotebook reversedChain(int cells) {
        ReactiveNotebook x = new ReactiveNotebook();
        for (int i = 0; i < cells; i++) {
            x.addCell(i, ADD, i == cells - 1 ? 1 : 101 + i, 1);
        }
        return x;
    }

    /** This many cells that all define variable 0. */
    static ReactiveNotebook rivals(int cells) {
        ReactiveNotebook x = new ReactiveNotebook();
        for (int i = 0; i < cells; i++) {
            x.addCell(0, ADD, i, 1);
        }
        return x;
    }

    /** 12 cells: a chain of nine and three more that define variable 9 by its end. What can be run was run. */
    static ReactiveNotebook full() {
        ReactiveNotebook x = chain(9);
        for (int i = 0; i < 3; i++) {
            x.addCell(9, MAXIMUM, 108, i);
        }
        x.runStale();
        return x;
    }

    /** Statuses of every kind, a last run of one cell, four saved states, and errors of each kind counted. */
    static ReactiveNotebook busy() {
        ReactiveNotebook x = rivals(12);
        x.addCell(0, ADD, 0, 0);
        x.addCell(-1, ADD, 0, 0);
        x.runCell(3);
        for (int i = 0; i < 10; i++) {
            x.deleteCell(0);
        }
        x.addCell(1, ADD, 101, 1);
        x.addCell(2, ADD, 109, 1);
        x.addCell(3, ADD, 102, 1);
        x.addCell(4, MULTIPLY, 99, 99);
        x.addCell(5, ADD, 104, 104);
        x.addCell(6, DIVIDE, 104, 0);
        x.addCell(7, ADD, 105, 106);
        x.runStale();
        x.addCell(8, ADD, 104, 1);
        x.editCell(7, 6, DIVIDE, 9, 0);
        x.runCell(7);
        return x;
    }

    /** Eager mode, four saved states, and a last run of three cells. */
    static ReactiveNotebook eager() {
        ReactiveNotebook x = new ReactiveNotebook();
        x.setEager(1);
        x.addCell(0, ADD, 2, 1);
        x.addCell(1, ADD, 103, 100);
        x.addCell(2, ADD, 101, 100);
        x.addCell(3, ADD, 5, 1);
        return x;
    }

    /** Cell 8 is OPERATOR on left and right, each from -9999 to 9999 and made of four cells. All were run. */
    static ReactiveNotebook computed(int operator, int left, int right) {
        ReactiveNotebook x = new ReactiveNotebook();
        defineNumber(x, 0, left);
        defineNumber(x, 4, right);
        x.addCell(COMPUTED, operator, 103, 107);
        x.runStale();
        return x;
    }

    /** Four cells; the variable three above the given one becomes the number, from -9999 to 9999. */
    private static void defineNumber(ReactiveNotebook x, int variable, int number) {
        int size = Math.abs(number);
        int factor = Math.min(99, size / 99);
        int rest = size - 99 * factor;
        x.addCell(variable, MULTIPLY, 99, factor);
        x.addCell(variable + 1, ADD, Math.min(99, rest), rest - Math.min(99, rest));
        x.addCell(variable + 2, ADD, 100 + variable, 101 + variable);
        if (number < 0) {
            x.addCell(variable + 3, SUBTRACT, 0, 102 + variable);
        } else {
            x.addCell(variable + 3, ADD, 0, 102 + variable);
        }
    }

    private Notebooks() { }
}
