/** Promise 10: step. */
public final class Promise10Step extends Due {
    static void withoutAHintItIsRefused() {
        changesNothing("step()", NumberedLoops::new, NumberedLoops::step, STATE);
        changesNothing("step()", Promise10Step::settled, NumberedLoops::step, STATE);
    }

    /** All sides are marked, and nothing clashes. */
    private static NumberedLoops settled() {
        NumberedLoops x = told("4.;..;");
        x.keep(0);
        x.spreads();
        return x;
    }

    static void aClashIsRefused() {
        changesNothing("step()", Promise10Step::clashing, NumberedLoops::step, CLASHES);
        due("hint(0) behind it", clashing().hint(0), CLASH);
    }

    private static NumberedLoops clashing() {
        NumberedLoops x = told("0.;..;");
        x.keep(1);
        lines(x, 0);
        x.numbers(3, 4);
        return x;
    }

    static void aClashOfEachRuleIsRefused() {
        NumberedLoops x = new NumberedLoops();
        lines(x, 0);
        blanks(x, 6);
        hintIs(x, CLASH, 1, 0);
        due("step(), rule 1", x.step(), CLASHES);
        x = told("...;");
        lines(x, 0, 3, 6, 7, 2, 5, 8, 9);
        blanks(x, 1, 4);
        hintIs(x, CLASH, 2, 0);
        due("step(), rule 2", x.step(), CLASHES);
        x = told(empty(3, 3));
        lines(x, 1);
        blanks(x, 4, 7, 10);
        hintIs(x, CLASH, 3, 1);
        due("step(), rule 3", x.step(), CLASHES);
    }

    static void linesBecomeSo() {
        NumberedLoops x = told("4.;..;");
        due("step()", x.step(), 4);
        due("sides", sidesSeen(x), "101000110000");
    }

    static void blanksBecomeSo() {
        NumberedLoops x = told("..;.0;");
        due("step()", x.step(), 4);
        due("sides", sidesSeen(x), "000202000022");
    }

    static void openSidesAloneBecomeSomething() {
        NumberedLoops x = told("3.;..;");
        blanks(x, 7);
        lines(x, 2);
        due("step()", x.step(), 2);
        due("sides", sidesSeen(x), "101000120000");
    }

    static void oneHintIsFollowedAndNoMore() {
        NumberedLoops x = told("4.;.0;");
        due("step()", x.step(), 4);
        due("sides", sidesSeen(x), "101000110000");
        hintIs(x, BLANKS, 0, 3, 3, 5, 10, 11);
        due("step()", x.step(), 4);
        due("sides", sidesSeen(x), "101202110022");
    }

    static void itAnswersHowManyTheHintTold() {
        NumberedLoops x = told("2.;..;");
        lines(x, 0);
        for (int i = 0; i < 12; i++) {
            int due = x.hint(3);
            if (x.hint(0) == NOTHING) {
                break;
            }
            due("step()", x.step(), due);
        }
        noHint(x);
    }

    static void itCanBeUndoneAsOne() {
        NumberedLoops x = told("4.;.0;");
        x.step();
        due("count(7)", x.count(7), 1);
        x.step();
        due("count(7)", x.count(7), 2);
        due("undo()", x.undo(), 1);
        due("sides", sidesSeen(x), "101000110000");
        due("undo()", x.undo(), 0);
        due("sides", sidesSeen(x), "000000000000");
    }

    static void theLoopsStayTheSame() {
        NumberedLoops x = told("3..;...;");
        blanks(x, 3);
        due("many(99)", x.many(99), 4);
        long all = x.forced(0);
        due("sides 0, 9, 10 are in all", all & bits(0, 9, 10), bits(0, 9, 10));
        due("step()", x.step(), 3);
        due("many(99)", x.many(99), 4);
        due("forced(0)", x.forced(0), all);
        due("tryNext()", x.tryNext(), 8);
    }

    public static void main(String[] args) {
        runAll(Promise10Step.class);
    }
}
