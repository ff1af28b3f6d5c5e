/** Promise 23: count. */
public final class Promise23Count extends Due {
    static void widthHeightAndSides() {
        for (int w = 1; w <= 4; w++) {
            for (int h = 1; h <= 4; h++) {
                NumberedLoops x = told(empty(w, h));
                due("count(0)", x.count(0), w);
                due("count(1)", x.count(1), h);
                due("count(2)", x.count(2), w * (h + 1) + (w + 1) * h);
            }
        }
    }

    static void linesAndBlankOnes() {
        NumberedLoops x = fourByFour();
        for (int side = 0; side < 40; side++) {
            due("count(3)", x.count(3), (side + 2) / 3);
            due("count(4)", x.count(4), side - (side + 2) / 3);
            x.marks(side, side % 3 == 0 ? LINE : BLANK);
        }
        due("count(3)", x.count(3), 14);
        due("count(4)", x.count(4), 26);
        x.marks(39, OPEN);
        x.marks(38, LINE);
        due("count(3)", x.count(3), 14);
        due("count(4)", x.count(4), 25);
    }

    static void allMayBeLinesAndAllBlank() {
        NumberedLoops x = fourByFour();
        NumberedLoops y = fourByFour();
        for (int side = 0; side < 40; side++) {
            x.marks(side, LINE);
            y.marks(side, BLANK);
        }
        due("count(3)", x.count(3), 40);
        due("count(4)", x.count(4), 0);
        due("count(3)", y.count(3), 0);
        due("count(4)", y.count(4), 40);
    }

    static void cellsWithANumber() {
        NumberedLoops x = fourByFour();
        for (int cell = 0; cell < 16; cell++) {
            due("count(5)", x.count(5), cell);
            x.numbers(cell, cell % 5);
        }
        due("count(5)", x.count(5), 16);
        x.numbers(15, 3);
        due("count(5)", x.count(5), 16);
        x.numbers(0, -1);
        x.numbers(15, -1);
        due("count(5)", x.count(5), 14);
        due("count(5), zeros count too", told("0.0;").count(5), 2);
    }

    static void lettersOfTheText() {
        NumberedLoops x = new NumberedLoops();
        for (int n = 0; n < 40; n++) {
            due("count(6)", x.count(6), n);
            x.type(' ');
        }
        due("count(6)", x.count(6), 40);
        x.type(' ');
        due("count(6)", x.count(6), 40);
        x.grid();
        due("count(6) behind a fault", x.count(6), 40);
        x.clear();
        due("count(6)", x.count(6), 0);
    }

    static void howManyMayBeUndone() {
        NumberedLoops x = new NumberedLoops();
        for (int n = 0; n < 12; n++) {
            due("count(7)", x.count(7), Math.min(n, 10));
            lines(x, n);
        }
        due("count(7)", x.count(7), 10);
        x.undo();
        due("count(7)", x.count(7), 9);
    }

    static void whatIsZeroToSeven() {
        for (int what : new int[] {-1, 8, NONE, Integer.MAX_VALUE, Integer.MIN_VALUE}) {
            changesNothing("count(" + what + ")", x -> x.count(what), BAD);
        }
    }

    static void itChangesNothing() {
        int[] due = {2, 2, 12, 0, 6, 3, 6, 3};
        for (int what = 0; what < 8; what++) {
            int it = what;
            changesNothing("count(" + what + ")", x -> x.count(it), due[what]);
        }
    }

    public static void main(String[] args) {
        runAll(Promise23Count.class);
    }
}
