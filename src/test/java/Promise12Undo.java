/** Promise 12: undo. */
public final class Promise12Undo extends Due {
    static void withNothingToUndoItIsRefused() {
        changesNothing("undo()", NumberedLoops::new, NumberedLoops::undo, STATE);
        changesNothing("undo()", Promise12Undo::undoneAll, NumberedLoops::undo, STATE);
    }

    private static NumberedLoops undoneAll() {
        NumberedLoops x = busy();
        for (int i = 0; i < 3; i++) {
            due("undo()", x.undo(), 2 - i);
        }
        return x;
    }

    static void itAnswersHowManyMoreMayBe() {
        for (int n = 1; n <= 10; n++) {
            NumberedLoops x = new NumberedLoops();
            for (int i = 0; i < n; i++) {
                lines(x, i);
            }
            due("count(7)", x.count(7), n);
            for (int more = n - 1; more >= 0; more--) {
                due("undo()", x.undo(), more);
                due("count(7)", x.count(7), more);
                due("side(" + more + ")", x.side(more), OPEN);
            }
            due("undo()", x.undo(), STATE);
        }
    }

    static void tenAreKnownAndOlderOnesAreLost() {
        for (int n = 10; n <= 40; n++) {
            NumberedLoops x = told(empty(4, 4));
            for (int i = 0; i < n; i++) {
                lines(x, i);
            }
            due("count(7)", x.count(7), 10);
            for (int more = 9; more >= 0; more--) {
                due("undo()", x.undo(), more);
                due("sides", sidesSeen(x), "1".repeat(n - 10 + more) + "0".repeat(50 - n - more));
            }
            due("undo()", x.undo(), STATE);
            due("count(3)", x.count(3), n - 10);
        }
    }

    static void longAfterManyChangesTenAreKnown() {
        NumberedLoops x = new NumberedLoops();
        for (int i = 0; i < 400; i++) {
            x.marks(i % 12, 1 + i / 12 % 2);
        }
        for (int i = 399; i >= 390; i--) {
            due("side before", x.side(i % 12), 1 + i / 12 % 2);
            due("undo()", x.undo(), i - 390);
            due("side behind", x.side(i % 12), 2 - i / 12 % 2);
        }
        due("undo()", x.undo(), STATE);
    }

    static void theLatestIsUndoneFirst() {
        NumberedLoops x = told("..;.0;");
        x.marks(0, LINE);
        x.numbers(1, 2);
        x.step();
        x.spreads();
        due("undo() of spreads()", x.undo(), 3);
        due("sides", sidesSeen(x), "100202000022");
        due("undo() of step()", x.undo(), 2);
        due("sides", sidesSeen(x), "100000000000");
        due("number(1)", x.number(1), 2);
        due("undo() of numbers()", x.undo(), 1);
        due("number(1)", x.number(1), NONE);
        due("side(0)", x.side(0), LINE);
        due("undo() of marks()", x.undo(), 0);
        due("side(0)", x.side(0), OPEN);
    }

    static void spreadsWithZeroIsUndoneToo() {
        NumberedLoops x = new NumberedLoops();
        lines(x, 7);
        x.spreads();
        due("undo()", x.undo(), 1);
        due("side(7)", x.side(7), LINE);
    }

    static void whatWasRefusedIsNotAmongThem() {
        NumberedLoops x = told("..;.0;");
        lines(x, 3);
        due("marks(3, 1)", x.marks(3, LINE), STATE);
        due("marks(12, 1)", x.marks(12, LINE), BAD);
        due("marks(0, 3)", x.marks(0, 3), BAD);
        due("numbers(3, 0)", x.numbers(3, 0), STATE);
        due("numbers(3, 5)", x.numbers(3, 5), BAD);
        due("step()", x.step(), CLASHES);
        due("back(0)", x.back(0), STATE);
        due("back(2)", x.back(2), BAD);
        due("grid()", x.grid(), -10);
        due("count(7)", x.count(7), 1);
        due("undo()", x.undo(), 0);
        due("side(3)", x.side(3), OPEN);
    }

    static void whatOnlyAsksIsNotAmongThem() {
        NumberedLoops x = new NumberedLoops();
        x.type('1');
        x.clear();
        x.hint(0);
        x.hinted();
        x.many(5);
        x.loop(0);
        x.forced(0);
        x.inside(0);
        x.numbersThat(0);
        x.tryNext();
        x.keep(0);
        due("count(7)", x.count(7), 0);
        due("undo()", x.undo(), STATE);
    }

    static void undoIsNotAmongThem() {
        NumberedLoops x = new NumberedLoops();
        lines(x, 0, 1);
        due("undo()", x.undo(), 1);
        due("undo()", x.undo(), 0);
        due("undo()", x.undo(), STATE);
        due("sides", sidesSeen(x), "000000000000");
    }

    static void whatComesBehindAnUndoTakesItsPlace() {
        NumberedLoops x = new NumberedLoops();
        lines(x, 0, 1, 2);
        due("undo()", x.undo(), 2);
        due("undo()", x.undo(), 1);
        blanks(x, 5);
        due("count(7)", x.count(7), 2);
        due("undo()", x.undo(), 1);
        due("sides", sidesSeen(x), "100000000000");
        due("undo()", x.undo(), 0);
        due("sides", sidesSeen(x), "000000000000");
    }

    static void lostOnesDoNotComeAgain() {
        NumberedLoops x = told(empty(4, 4));
        for (int i = 0; i < 15; i++) {
            lines(x, i);
        }
        for (int i = 0; i < 4; i++) {
            x.undo();
        }
        lines(x, 20, 21);
        due("count(7)", x.count(7), 8);
        for (int more = 7; more >= 0; more--) {
            due("undo()", x.undo(), more);
        }
        due("undo()", x.undo(), STATE);
        due("sides", sidesSeen(x), "1".repeat(5) + "0".repeat(35));
    }

    static void noneMayBeBehindBack() {
        NumberedLoops x = new NumberedLoops();
        lines(x, 0);
        x.keep(0);
        lines(x, 1);
        x.back(0);
        due("count(7)", x.count(7), 0);
        due("undo()", x.undo(), STATE);
        due("sides", sidesSeen(x), "100000000000");
        lines(x, 2);
        due("undo() of what came behind it", x.undo(), 0);
        due("sides", sidesSeen(x), "100000000000");
        due("undo()", x.undo(), STATE);
    }

    static void noneMayBeWhenReadAnew() {
        NumberedLoops x = new NumberedLoops();
        lines(x, 0, 1);
        types(x, "..;..;");
        x.grid();
        due("count(7)", x.count(7), 0);
        due("undo()", x.undo(), STATE);
        lines(x, 5);
        due("undo() of what came behind it", x.undo(), 0);
        due("sides", sidesSeen(x), "000000000000");
        due("undo()", x.undo(), STATE);
    }

    static void itLeavesTextAndImages() {
        NumberedLoops x = busy();
        lines(x, 6);
        x.undo();
        due("all there is", emptied(x), emptied(busy()));
    }

    static void keptImagesStayWhenWhatTheyHoldIsUndone() {
        NumberedLoops x = new NumberedLoops();
        lines(x, 0);
        x.numbers(3, 2);
        x.keep(1);
        due("undo()", x.undo(), 1);
        due("undo()", x.undo(), 0);
        due("back(1)", x.back(1), 11);
        due("side(0)", x.side(0), LINE);
        due("number(3)", x.number(3), 2);
    }

    static void whatFollowsIsAsBefore() {
        NumberedLoops x = new NumberedLoops();
        lines(x, 0);
        due("many(99)", x.many(99), 7);
        hintIs(x, LINES, 1, 0, 6);
        x.undo();
        due("many(99)", x.many(99), 13);
        noHint(x);
    }

    public static void main(String[] args) {
        runAll(Promise12Undo.class);
    }
}
