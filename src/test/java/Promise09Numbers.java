/** Promise 9: numbers. */
public final class Promise09Numbers extends Due {
    private static NumberedLoops numbered(int n) {
        NumberedLoops x = busy();
        x.numbers(3, 4);
        x.numbers(3, n);
        return x;
    }

    static void eachNumberAndNoneBecomesEachOther() {
        for (int was = -1; was <= 4; was++) {
            for (int n = -1; n <= 4; n++) {
                if (was != n) {
                    NumberedLoops x = numbered(was);
                    due("numbers(3, " + n + ")", x.numbers(3, n), 1);
                    due("number(3)", x.number(3), n == -1 ? NONE : n);
                }
            }
        }
    }

    static void whatItHasAlreadyIsRefused() {
        for (int n = -1; n <= 4; n++) {
            int it = n;
            changesNothing("numbers(3, " + n + ")", () -> numbered(it), x -> x.numbers(3, it), STATE);
        }
    }

    static void noneAtFirstIsNoneAlready() {
        for (int cell = 0; cell < 4; cell++) {
            due("numbers(" + cell + ", -1)", new NumberedLoops().numbers(cell, -1), STATE);
        }
    }

    static void noOtherCellChanges() {
        NumberedLoops x = told(empty(4, 4));
        for (int cell = 0; cell < 16; cell++) {
            due("numbers(" + cell + ", ..)", x.numbers(cell, cell % 5), 1);
        }
        due("numbers", numbersSeen(x), " 0 1 2 3 4 0 1 2 3 4 0 1 2 3 4 0");
        x.numbers(8, -1);
        x.numbers(15, 4);
        due("numbers", numbersSeen(x), " 0 1 2 3 4 0 1 2 -9 4 0 1 2 3 4 4");
    }

    static void noSideChanges() {
        NumberedLoops x = busy();
        String sides = sidesSeen(x);
        x.numbers(3, 4);
        due("sides", sidesSeen(x), sides);
    }

    static void theLastCellIsNumberedAndTheNextIsBad() {
        for (int w = 1; w <= 4; w++) {
            for (int h = 1; h <= 4; h++) {
                NumberedLoops x = told(empty(w, h));
                due("numbers of the last", x.numbers(w * h - 1, 2), 1);
                due("numbers of one more", x.numbers(w * h, 2), BAD);
                due("count(5)", x.count(5), 1);
            }
        }
    }

    private static void isBad(int cell, int n) {
        changesNothing("numbers(" + cell + ", " + n + ")", x -> x.numbers(cell, n), BAD);
    }

    static void aCellBelowZeroIsBad() {
        isBad(-1, -1);
        isBad(-1, 0);
        isBad(-1, 4);
        isBad(Integer.MIN_VALUE, 1);
    }

    static void aCellThatIsNotThereIsBad() {
        isBad(4, -1);
        isBad(4, 0);
        isBad(4, 4);
        for (int cell : FAR_OFF) {
            isBad(cell, 1);
        }
    }

    static void nIsMinusOneToFour() {
        isBad(0, -2);
        isBad(0, 5);
        isBad(0, NONE);
        isBad(3, 15);
        isBad(0, Integer.MAX_VALUE);
        isBad(0, Integer.MIN_VALUE);
    }

    static void bothWrongIsBad() {
        isBad(4, 5);
        isBad(-1, -2);
    }

    static void itCanBeUndone() {
        NumberedLoops x = new NumberedLoops();
        x.numbers(2, 0);
        due("count(7)", x.count(7), 1);
        x.numbers(2, 4);
        x.numbers(2, -1);
        due("count(7)", x.count(7), 3);
        due("undo()", x.undo(), 2);
        due("number(2)", x.number(2), 4);
        due("undo()", x.undo(), 1);
        due("number(2)", x.number(2), 0);
        due("undo()", x.undo(), 0);
        due("number(2)", x.number(2), NONE);
    }

    static void itIsNumberedAgainstItsLinesToo() {
        NumberedLoops x = new NumberedLoops();
        lines(x, 0);
        due("numbers(0, 0)", x.numbers(0, 0), 1);
        hintIs(x, CLASH, 0, 0);
        due("numbers(0, 1)", x.numbers(0, 1), 1);
        hintIs(x, BLANKS, 0, 0, 2, 6, 7);
    }

    static void whatFollowsChangesToo() {
        NumberedLoops x = new NumberedLoops();
        due("many(99)", x.many(99), 13);
        noHint(x);
        x.numbers(0, 3);
        due("many(99)", x.many(99), 4);
        noHint(x);
        x.numbers(0, 4);
        due("many(99)", x.many(99), 1);
        hintIs(x, LINES, 0, 0, 0, 2, 6, 7);
        x.numbers(0, -1);
        due("many(99)", x.many(99), 13);
        noHint(x);
    }

    public static void main(String[] args) {
        runAll(Promise09Numbers.class);
    }
}
