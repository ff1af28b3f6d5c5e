/** Promise 11: spreads. */
public final class Promise11Spreads extends Due {
    static void noStepsIsZero() {
        NumberedLoops x = new NumberedLoops();
        due("spreads()", x.spreads(), 0);
        due("sides", sidesSeen(x), "000000000000");
        due("spreads()", x.spreads(), 0);
    }

    static void inAClashItIsZeroAndNotRefused() {
        NumberedLoops x = told("0.;..;");
        lines(x, 0);
        due("hint(0)", x.hint(0), CLASH);
        due("spreads()", x.spreads(), 0);
        due("sides", sidesSeen(x), "100000000000");
        due("count(7)", x.count(7), 2);
    }

    static void itGoesOnTillThereIsNoHint() {
        NumberedLoops x = told("4.;..;");
        due("spreads()", x.spreads(), 12);
        due("sides", sidesSeen(x), "121222112222");
        noHint(x);
    }

    static void itGoesOnIntoAClash() {
        NumberedLoops x = told("4.;.4;");
        // Points 1, 2 and 3 tell something before point 4 is looked at.
        due("spreads()", x.spreads(), 11);
        due("sides", sidesSeen(x), "121101112211");
        hintIs(x, CLASH, 1, 4);
    }

    static void sidesThatWereMarkedDoNotCount() {
        NumberedLoops x = told("4.;..;");
        lines(x, 0, 7);
        blanks(x, 11);
        due("spreads()", x.spreads(), 9);
        due("sides", sidesSeen(x), "121222112222");
    }

    static void allFortyMayBecomeSomething() {
        NumberedLoops x = told("0000;0000;0000;0000;");
        due("spreads()", x.spreads(), 40);
        due("count(4)", x.count(4), 40);
        due("hint(0)", x.hint(0), NOTHING);
    }

    static void sidesThatNothingIsToldOfStayOpen() {
        NumberedLoops x = told("4...;....;....;....;");
        due("spreads()", x.spreads(), 8);
        due("sides", sidesSeen(x), "1200" + "1200" + "0".repeat(12) + "11000" + "22000" + "0".repeat(10));
        noHint(x);
    }

    static void itIsAsStepsOneByOne() {
        String[] texts = {"3...;....;....;...3;", "22;22;", "3.3;...;3.3;", ".3.;2.2;.1.;", "33;..;", "2323;", ".;3;.;"};
        for (String text : texts) {
            NumberedLoops x = told(text);
            NumberedLoops y = told(text);
            lines(x, 0);
            lines(y, 0);
            int all = 0;
            int one = x.step();
            for (int i = 0; i < 40 && one > 0; i++) {
                all += one;
                one = x.step();
            }
            due("spreads() of " + text, y.spreads(), all);
            due("sides of " + text, sidesSeen(y), sidesSeen(x));
            due("the hint of " + text, hintOf(y), hintOf(x));
            due("step() of " + text, y.step(), one);
        }
    }

    /** All steps that there are, one by one: how many. */
    private static int stepsOf(NumberedLoops x) {
        int steps = 0;
        while (steps < 41 && x.step() > 0) {
            steps++;
        }
        return steps;
    }

    private static NumberedLoops longWay() {
        NumberedLoops x = told("3201;..2.;..2.;22.2;");
        lines(x, 5);
        return x;
    }

    static void itGoesOnForAsManyStepsAsItTakes() {
        due("steps one by one", stepsOf(longWay()), 36);
        NumberedLoops x = longWay();
        long loop = x.loop(0);
        due("many(2)", x.many(2), 1);
        due("spreads()", x.spreads(), 39);
        noHint(x);
        for (int side = 0; side < 40; side++) {
            due("side(" + side + ")", x.side(side), (loop >> side & 1) == 1 ? LINE : BLANK);
        }
    }

    private static NumberedLoops longWayIntoAClash() {
        NumberedLoops x = told("3123;.23.;.1.2;.2.2;");
        lines(x, 6);
        blanks(x, 1, 22);
        return x;
    }

    static void itGoesOnForAsManyStepsAsItTakesIntoAClash() {
        NumberedLoops x = longWayIntoAClash();
        due("steps one by one", stepsOf(x), 36);
        due("step()", x.step(), CLASHES);
        NumberedLoops y = longWayIntoAClash();
        int open = y.keep(0);
        due("spreads()", y.spreads(), open - x.keep(0));
        due("sides", sidesSeen(y), sidesSeen(x));
        due("hint(0)", y.hint(0), CLASH);
    }

    static void itCanBeUndoneAsOne() {
        NumberedLoops x = told("4.;..;");
        x.spreads();
        due("count(7)", x.count(7), 1);
        due("undo()", x.undo(), 0);
        due("sides", sidesSeen(x), "000000000000");
    }

    static void withZeroItCanBeUndoneToo() {
        NumberedLoops x = new NumberedLoops();
        lines(x, 7);
        due("spreads()", x.spreads(), 0);
        due("count(7)", x.count(7), 2);
        due("undo()", x.undo(), 1);
        due("side(7)", x.side(7), LINE);
        due("undo()", x.undo(), 0);
        due("side(7)", x.side(7), OPEN);
    }

    static void withZeroItMakesTheOldestBeLost() {
        NumberedLoops x = new NumberedLoops();
        lines(x, 7);
        for (int i = 0; i < 10; i++) {
            due("spreads()", x.spreads(), 0);
        }
        for (int more = 9; more >= 0; more--) {
            due("undo()", x.undo(), more);
        }
        due("undo()", x.undo(), STATE);
        due("side(7)", x.side(7), LINE);
    }

    static void itLeavesNumbersTextAndImages() {
        NumberedLoops x = busy();
        NumberedLoops y = busy();
        x.spreads();
        x.undo();
        due("all there is", emptied(x), emptied(y));
    }

    static void theLoopsStayTheSame() {
        NumberedLoops x = told("3.;..;");
        blanks(x, 2);
        due("many(99)", x.many(99), 2);
        due("tryNext()", x.tryNext(), 3);
        long first = x.loop(0);
        due("spreads()", x.spreads(), 7);
        due("many(99)", x.many(99), 2);
        due("tryNext()", x.tryNext(), 3);
        due("loop(0)", x.loop(0), first);
    }

    public static void main(String[] args) {
        runAll(Promise11Spreads.class);
    }
}
