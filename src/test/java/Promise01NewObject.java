/** Promise 1: a new object. */
public final class Promise01NewObject extends Due {
    static void itHasTwoByTwoCells() {
        NumberedLoops x = new NumberedLoops();
        due("count(0)", x.count(0), 2);
        due("count(1)", x.count(1), 2);
        due("count(2)", x.count(2), 12);
        due("number(3)", x.number(3), NONE);
        due("number(4)", x.number(4), BAD);
        due("side(11)", x.side(11), OPEN);
        due("side(12)", x.side(12), BAD);
        due("sideOf(1, 8, 0)", x.sideOf(1, 8, 0), 5);
        due("sideOf(1, 9, 0)", x.sideOf(1, 9, 0), BAD);
    }

    static void noCellHasANumber() {
        NumberedLoops x = new NumberedLoops();
        due("numbers", numbersSeen(x), " -9 -9 -9 -9");
        due("count(5)", x.count(5), 0);
        for (int cell = 0; cell < 4; cell++) {
            due("numbers(" + cell + ", -1)", x.numbers(cell, -1), STATE);
        }
    }

    static void allSidesAreOpen() {
        NumberedLoops x = new NumberedLoops();
        due("sides", sidesSeen(x), "000000000000");
        due("count(3)", x.count(3), 0);
        due("count(4)", x.count(4), 0);
        due("keep(0)", x.keep(0), 12);
    }

    static void theTextIsEmpty() {
        due("count(6)", new NumberedLoops().count(6), 0);
        due("clear()", new NumberedLoops().clear(), 0);
        due("type(46)", new NumberedLoops().type(46), 1);
        due("grid()", new NumberedLoops().grid(), -10);
    }

    static void nothingCanBeUndone() {
        due("count(7)", new NumberedLoops().count(7), 0);
        due("undo()", new NumberedLoops().undo(), STATE);
    }

    static void noImageWasKept() {
        due("back(0)", new NumberedLoops().back(0), STATE);
        due("back(1)", new NumberedLoops().back(1), STATE);
    }

    static void itIsAsReadAnewFromATextWithoutNumbers() {
        due("a new object", emptied(new NumberedLoops()), emptied(told("..;..;")));
        due("its loops", new NumberedLoops().many(10000), 13);
        noHint(new NumberedLoops());
    }

    static void theConstantsAreAsTheFaceSays() {
        due("BAD", NumberedLoops.BAD, -1);
        due("STATE", NumberedLoops.STATE, -2);
        due("FULL", NumberedLoops.FULL, -3);
        due("CLASHES", NumberedLoops.CLASHES, -4);
        due("NONE", NumberedLoops.NONE, -9);
    }

    static void twoObjectsShareNothing() {
        NumberedLoops x = new NumberedLoops();
        NumberedLoops y = busy();
        due("the first one", emptied(x), emptied(new NumberedLoops()));
        due("the second one", emptied(y), emptied(busy()));
    }

    /** An object is used for at most 512 calls: each of them has its answer. */
    static void eachOf512CallsIsAnswered() {
        NumberedLoops x = new NumberedLoops();
        for (int call = 1; call <= 510; call++) {
            due("marks(), call " + call, x.marks(11, call % 2 == 1 ? LINE : BLANK), call == 1 ? OPEN : 1 + call % 2);
        }
        due("many(99), call 511", x.many(99), 6);
        due("count(7), call 512", x.count(7), 10);
        NumberedLoops y = new NumberedLoops();
        for (int call = 1; call <= 512; call++) {
            due("type(), call " + call, y.type(46), call <= 40 ? call : FULL);
        }
    }

    public static void main(String[] args) {
        runAll(Promise01NewObject.class);
    }
}
