/** Promise 17: forced. */
public final class Promise17Forced extends Due {
    static void inAllOfThem() {
        NumberedLoops x = told(".3.;");
        due("many(9)", x.many(9), 2);
        due("forced(0)", x.forced(0), bits(1, 4));
    }

    static void inNoneOfThem() {
        NumberedLoops x = told(".3.;");
        x.numbers(0, 1);
        due("many(9)", x.many(9), 1);
        due("forced(0)", x.forced(0), bits(1, 2, 4, 5, 7, 9));
        due("forced(1)", x.forced(1), bits(0, 3, 6, 8));
    }

    static void withoutALoopItIsNone() {
        NumberedLoops x = told("0;");
        due("forced(0)", x.forced(0), NONE);
        due("forced(1)", x.forced(1), NONE);
    }

    static void withJustOneItIsThatAndAllTheOthers() {
        NumberedLoops x = told("4.;..;");
        due("forced(0)", x.forced(0), bits(0, 2, 6, 7));
        due("forced(1)", x.forced(1), bits(1, 3, 4, 5, 8, 9, 10, 11));
        x = told("....;....;....;...4;");
        due("forced(0)", x.forced(0), x.loop(0));
        due("forced(1)", x.forced(1), (1L << 40) - 1 - x.loop(0));
        x = told(".;");
        due("forced(0)", x.forced(0), 15);
        due("forced(1)", x.forced(1), 0);
    }

    static void whereNoSideIsSoItIsZeroAndNotNone() {
        NumberedLoops x = new NumberedLoops();
        due("forced(0)", x.forced(0), 0);
        due("forced(1)", x.forced(1), 0);
    }

    static void markedSidesAreAmongThem() {
        NumberedLoops x = fourByFour();
        lines(x, 39);
        blanks(x, 0);
        due("forced(0)", x.forced(0), bits(19, 39));
        due("forced(1)", x.forced(1), bits(0, 20));
    }

    static void nothingBeyondTheSidesIsAmongThem() {
        for (int w = 1; w <= 4; w++) {
            for (int h = 1; h <= 4; h++) {
                NumberedLoops x = told(empty(w, h));
                x.numbers(0, 4);
                due("all of both", x.forced(0) | x.forced(1), (1L << lastSide(w, h) + 1) - 1);
                due("none in both", x.forced(0) & x.forced(1), 0);
            }
        }
    }

    static void theyAreThoseOfAllLoopsOneByOne() {
        for (String text : new String[] {"2..;..3;", "3.;..;.1;", "3;2;.;", "1..;.3.;...;", ".2.3;"}) {
            NumberedLoops x = told(text);
            long all = -1;
            long some = 0;
            int many = x.many(400);
            for (int k = 0; k < many; k++) {
                all &= x.loop(k);
                some |= x.loop(k);
            }
            due("forced(0) of " + text, x.forced(0), all);
            due("forced(1) of " + text, x.forced(1), (1L << x.count(2)) - 1 & ~some);
        }
    }

    static void theyAreThoseOfTheLoopsThatAreLeft() {
        NumberedLoops x = new NumberedLoops();
        due("forced(1) of all", x.forced(1), 0);
        x.numbers(0, 4);
        due("forced(0)", x.forced(0), bits(0, 2, 6, 7));
        due("forced(1)", x.forced(1), bits(1, 3, 4, 5, 8, 9, 10, 11));
        x.numbers(3, 4);
        due("forced(0)", x.forced(0), NONE);
        due("forced(1)", x.forced(1), NONE);
        x.numbers(0, -1);
        due("forced(0)", x.forced(0), bits(3, 5, 10, 11));
        due("forced(1)", x.forced(1), bits(0, 1, 2, 4, 6, 7, 8, 9));
        types(x, ".;");
        x.grid();
        due("forced(0) of another grid", x.forced(0), 15);
        due("forced(1) of another grid", x.forced(1), 0);
    }

    static void whatIsZeroOrOne() {
        for (int what : new int[] {-1, 2, Integer.MAX_VALUE, Integer.MIN_VALUE}) {
            changesNothing("forced(" + what + ")", x -> x.forced(what), BAD);
            changesNothing("forced(" + what + ")", NumberedLoops::new, x -> x.forced(what), BAD);
        }
        due("forced(2) without a loop", told("0;").forced(2), BAD);
        due("forced(-1) without a loop", told("0;").forced(-1), BAD);
    }

    static void itChangesNothing() {
        changesNothing("forced(0)", NumberedLoops::new, x -> x.forced(0), 0);
        changesNothing("forced(1)", () -> told("4.;..;"), x -> x.forced(1), bits(1, 3, 4, 5, 8, 9, 10, 11));
    }

    public static void main(String[] args) {
        runAll(Promise17Forced.class);
    }
}
