/** Promise 21: keep. */
public final class Promise21Keep extends Due {
    static void itAnswersHowManySidesAreOpen() {
        NumberedLoops x = new NumberedLoops();
        due("keep(0), all open", x.keep(0), 12);
        lines(x, 0);
        due("keep(0), a line", x.keep(0), 11);
        blanks(x, 1);
        due("keep(1), a blank, too", x.keep(1), 10);
        x.marks(0, OPEN);
        due("keep(1)", x.keep(1), 11);
    }

    static void withNothingOpenItIsZero() {
        NumberedLoops x = told("4.;..;");
        x.spreads();
        due("keep(0)", x.keep(0), 0);
        due("back(0)", x.back(0), 0);
        due("keep(0) of the greatest grid", fourByFour().keep(0), 40);
        due("keep(1) of the least grid", told(".;").keep(1), 4);
    }

    static void imagesAreZeroAndOne() {
        for (int image : new int[] {-1, 2, Integer.MAX_VALUE, Integer.MIN_VALUE}) {
            changesNothing("keep(" + image + ")", x -> x.keep(image), BAD);
            changesNothing("keep(" + image + ")", NumberedLoops::new, x -> x.keep(image), BAD);
        }
    }

    static void numbersAndSidesAreKept() {
        for (int image = 0; image < 2; image++) {
            NumberedLoops x = told("01;2.;34;");
            lines(x, 0, 16);
            blanks(x, 8);
            x.keep(image);
            for (int cell = 0; cell < 6; cell++) {
                x.numbers(cell, 4 - cell % 5);
            }
            x.marks(0, OPEN);
            x.marks(8, LINE);
            x.marks(3, BLANK);
            due("back(" + image + ")", x.back(image), 14);
            due("numbers", numbersSeen(x), " 0 1 2 -9 3 4");
            due("sides", sidesSeen(x), "10000000200000001");
        }
    }

    static void eachImageIsItsOwn() {
        NumberedLoops x = new NumberedLoops();
        x.keep(0);
        due("back(1)", x.back(1), STATE);
        lines(x, 5);
        x.keep(1);
        due("back(0)", x.back(0), 12);
        due("side(5)", x.side(5), OPEN);
        due("back(1)", x.back(1), 11);
        due("side(5)", x.side(5), LINE);
    }

    static void keptAgainItIsTheLatest() {
        NumberedLoops x = new NumberedLoops();
        x.keep(0);
        lines(x, 5);
        x.keep(0);
        lines(x, 6);
        due("back(0)", x.back(0), 11);
        due("sides", sidesSeen(x), "000001000000");
    }

    static void itIsNothingThatCanBeUndone() {
        NumberedLoops x = new NumberedLoops();
        x.keep(0);
        due("count(7)", x.count(7), 0);
        lines(x, 0);
        x.keep(1);
        due("count(7)", x.count(7), 1);
        due("undo()", x.undo(), 0);
        due("side(0)", x.side(0), OPEN);
    }

    static void nothingButTheImageChanges() {
        NumberedLoops x = busy();
        NumberedLoops y = busy();
        x.keep(0);
        String state = seen(x);
        due("the state", state, seen(y));
        for (int more = 2; more >= 0; more--) {
            due("undo()", x.undo(), more);
            due("undo()", y.undo(), more);
            due("the state", seen(x), seen(y));
        }
        x.back(1);
        y.back(1);
        due("the other image", seen(x), seen(y));
    }

    static void aClashIsKeptToo() {
        NumberedLoops x = told("0;");
        lines(x, 0);
        due("keep(0)", x.keep(0), 3);
        x.marks(0, OPEN);
        due("back(0)", x.back(0), 3);
        hintIs(x, CLASH, 0, 0);
    }

    public static void main(String[] args) {
        runAll(Promise21Keep.class);
    }
}
