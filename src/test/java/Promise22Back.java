/** Promise 22: back. */
public final class Promise22Back extends Due {
    static void whatWasNeverKeptIsRefused() {
        for (int image = 0; image < 2; image++) {
            int it = image;
            changesNothing("back(" + image + ")", NumberedLoops::new, x -> x.back(it), STATE);
            changesNothing("back(" + image + ")", () -> keptAlone(1 - it), x -> x.back(it), STATE);
        }
    }

    /** Something in all there is, but for one image. */
    private static NumberedLoops keptAlone(int image) {
        NumberedLoops x = told("3.;.1;");
        x.marks(0, LINE);
        x.keep(image);
        x.numbers(1, 2);
        x.spreads();
        types(x, "..;");
        return x;
    }

    static void imagesAreZeroAndOne() {
        for (int image : new int[] {-1, 2, Integer.MAX_VALUE, Integer.MIN_VALUE}) {
            changesNothing("back(" + image + ")", x -> x.back(image), BAD);
            changesNothing("back(" + image + ")", NumberedLoops::new, x -> x.back(image), BAD);
        }
    }

    static void itAnswersHowManySidesAreOpen() {
        NumberedLoops x = new NumberedLoops();
        lines(x, 0, 6);
        blanks(x, 1);
        x.keep(0);
        blanks(x, 2, 3, 4);
        due("back(0)", x.back(0), 9);
        due("sides", sidesSeen(x), "120000100000");
        x.spreads();
        x.keep(1);
        due("back(0)", x.back(0), 9);
    }

    static void numbersBecomeAsTheImageHasThem() {
        NumberedLoops x = told("0.;.4;");
        x.keep(1);
        x.numbers(0, -1);
        x.numbers(1, 3);
        x.numbers(3, 0);
        x.back(1);
        due("numbers", numbersSeen(x), " 0 -9 -9 4");
        due("count(5)", x.count(5), 2);
    }

    static void nothingCanBeUndoneBehindIt() {
        NumberedLoops x = new NumberedLoops();
        x.keep(0);
        for (int side = 0; side < 11; side++) {
            lines(x, side);
        }
        x.back(0);
        due("count(7)", x.count(7), 0);
        due("undo()", x.undo(), STATE);
        due("sides", sidesSeen(x), "000000000000");
    }

    static void whatComesBehindItCanBeUndone() {
        NumberedLoops x = new NumberedLoops();
        lines(x, 0);
        x.keep(0);
        lines(x, 1);
        x.back(0);
        lines(x, 2);
        x.numbers(3, 1);
        due("count(7)", x.count(7), 2);
        due("undo()", x.undo(), 1);
        due("undo()", x.undo(), 0);
        due("undo()", x.undo(), STATE);
        due("sides", sidesSeen(x), "100000000000");
    }

    static void theTextIsNotPartOfIt() {
        NumberedLoops x = typed("1");
        x.keep(0);
        types(x, "2;");
        x.back(0);
        due("count(6)", x.count(6), 3);
        due("grid()", x.grid(), 1);
        due("numbers", numbersSeen(x), " 1 2");
    }

    static void theImageStays() {
        NumberedLoops x = new NumberedLoops();
        lines(x, 3);
        x.keep(1);
        for (int i = 0; i < 3; i++) {
            x.marks(3, BLANK);
            x.numbers(0, i);
            due("back(1)", x.back(1), 11);
            due("sides", sidesSeen(x), "000100000000");
            due("number(0)", x.number(0), NONE);
        }
    }

    static void theOtherImageStays() {
        NumberedLoops x = new NumberedLoops();
        lines(x, 3);
        x.keep(1);
        blanks(x, 4);
        x.keep(0);
        x.back(1);
        due("back(0)", x.back(0), 10);
        due("sides", sidesSeen(x), "000120000000");
    }

    static void whereNothingIsOtherwiseItIsNotRefused() {
        NumberedLoops x = new NumberedLoops();
        x.keep(0);
        due("back(0)", x.back(0), 12);
        due("back(0)", x.back(0), 12);
    }

    static void whereNothingIsOtherwiseNothingCanBeUndoneToo() {
        NumberedLoops x = new NumberedLoops();
        lines(x, 0);
        x.keep(0);
        due("back(0)", x.back(0), 11);
        due("count(7)", x.count(7), 0);
        due("undo()", x.undo(), STATE);
        due("side(0)", x.side(0), LINE);
    }

    static void whenReadAnewImagesAreGone() {
        for (int image = 0; image < 2; image++) {
            NumberedLoops x = new NumberedLoops();
            x.keep(0);
            x.keep(1);
            types(x, "..;..;");
            x.grid();
            due("back(" + image + ")", x.back(image), STATE);
            lines(x, 0);
            x.keep(image);
            due("back(" + (1 - image) + ")", x.back(1 - image), STATE);
            due("back(" + image + ")", x.back(image), 11);
        }
    }

    static void whenReadWithAFaultImagesStay() {
        NumberedLoops x = new NumberedLoops();
        lines(x, 0);
        x.keep(0);
        x.keep(1);
        x.undo();
        types(x, ";");
        due("grid()", x.grid(), -10);
        due("back(0)", x.back(0), 11);
        due("back(1)", x.back(1), 11);
    }

    static void whatFollowsIsThatOfTheImage() {
        NumberedLoops x = new NumberedLoops();
        x.keep(0);
        lines(x, 0);
        x.keep(1);
        due("many(99)", x.many(99), 7);
        x.back(0);
        due("many(99)", x.many(99), 13);
        noHint(x);
        x.back(1);
        due("many(99)", x.many(99), 7);
        hintIs(x, LINES, 1, 0, 6);
    }

    public static void main(String[] args) {
        runAll(Promise22Back.class);
    }
}
