/** Promise 13: hint, what it is, and in which order rules are looked at. */
public final class Promise13Hint extends Due {
    static void withoutAHintItIsZeroAndNone() {
        NumberedLoops x = new NumberedLoops();
        due("hint(0)", x.hint(0), 0);
        due("hint(1)", x.hint(1), NONE);
        due("hint(2)", x.hint(2), NONE);
        due("hint(3)", x.hint(3), NONE);
    }

    static void blanksAreOne() {
        NumberedLoops x = told("..;.0;");
        due("hint(0)", x.hint(0), 1);
        due("hint(1)", x.hint(1), 0);
        due("hint(2)", x.hint(2), 3);
        due("hint(3)", x.hint(3), 4);
    }

    static void linesAreTwo() {
        NumberedLoops x = told("..;4.;");
        due("hint(0)", x.hint(0), 2);
        due("hint(1)", x.hint(1), 0);
        due("hint(2)", x.hint(2), 2);
        due("hint(3)", x.hint(3), 4);
    }

    static void aClashIsThreeWithoutSides() {
        NumberedLoops x = told("..;.0;");
        lines(x, 11);
        due("hint(0)", x.hint(0), 3);
        due("hint(1)", x.hint(1), 0);
        due("hint(2)", x.hint(2), 3);
        due("hint(3)", x.hint(3), NONE);
    }

    static void whatIsZeroToThree() {
        for (int what : new int[] {-1, 4, NONE, Integer.MAX_VALUE, Integer.MIN_VALUE}) {
            changesNothing("hint(" + what + ")", x -> x.hint(what), BAD);
            changesNothing("hint(" + what + ")", NumberedLoops::new, x -> x.hint(what), BAD);
        }
        NumberedLoops x = told("0;");
        lines(x, 0);
        due("hint(4) in a clash", x.hint(4), BAD);
    }

    static void itChangesNothing() {
        for (int what = 0; what <= 3; what++) {
            int it = what;
            changesNothing("hint(" + what + ")", () -> told("4.;.1;"), x -> x.hint(it), new int[] {2, 0, 0, 4}[what]);
        }
    }

    static void rule0GoesAheadOfRule1() {
        NumberedLoops x = told("..;.0;");
        lines(x, 0);
        blanks(x, 6);
        hintIs(x, BLANKS, 0, 3, 3, 5, 10, 11);
        x.numbers(3, -1);
        hintIs(x, CLASH, 1, 0);
    }

    static void rule1GoesAheadOfRule2() {
        NumberedLoops x = fourByFour();
        lines(x, 0, 4, 20, 21);
        blanks(x, 1, 5, 25, 26);
        lines(x, 14);
        hintIs(x, CLASH, 2, 0);
        blanks(x, 39);
        hintIs(x, BLANKS, 1, 24, 19);
    }

    static void rule2GoesAheadOfRule3() {
        NumberedLoops x = fourByFour();
        lines(x, 25);
        blanks(x, 26, 5);
        hintIs(x, LINES, 3, 1, 1);
        lines(x, 15, 19, 38, 39);
        blanks(x, 14, 33, 34, 18);
        hintIs(x, CLASH, 2, 15);
    }

    public static void main(String[] args) {
        runAll(Promise13Hint.class);
    }
}
