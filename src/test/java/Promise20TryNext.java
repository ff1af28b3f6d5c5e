/** Promise 20: tryNext. */
public final class Promise20TryNext extends Due {
    static void withoutALoopItIsNone() {
        due("tryNext()", told("0;").tryNext(), NONE);
        due("tryNext()", told("44;").tryNext(), NONE);
    }

    static void withJustOneItIsNone() {
        due("tryNext()", told(".;").tryNext(), NONE);
        due("tryNext()", told("4.;..;").tryNext(), NONE);
        NumberedLoops x = new NumberedLoops();
        lines(x, 0, 2, 6, 7);
        due("tryNext() with open sides", x.tryNext(), NONE);
    }

    static void withNoOpenSideItIsNone() {
        NumberedLoops x = told(".;");
        lines(x, 0, 1, 2, 3);
        due("tryNext()", x.tryNext(), NONE);
        x.marks(3, BLANK);
        due("tryNext()", x.tryNext(), NONE);
    }

    static void ofTwoLoopsTheLowestSideThatPartsThem() {
        NumberedLoops x = told(".3.;");
        due("many(9)", x.many(9), 2);
        due("tryNext()", x.tryNext(), 0);
        x = told("...;");
        lines(x, 0, 1);
        due("many(9)", x.many(9), 2);
        due("tryNext()", x.tryNext(), 2);
    }

    static void ofSeveralTheLowest() {
        due("tryNext()", told("..;").tryNext(), 0);
        due("tryNext()", new NumberedLoops().tryNext(), 0);
    }

    static void theMostEvenOneGoesAheadOfLowerOnes() {
        NumberedLoops x = told("3..;...;");
        due("many(99)", x.many(99), 11);
        due("tryNext()", x.tryNext(), 2);
        lines(x, 1);
        due("many(99) with side 1", x.many(99), 7);
        x.marks(1, BLANK);
        due("many(99) without side 1", x.many(99), 4);
        x.marks(1, OPEN);
        lines(x, 2);
        due("many(99) with side 2", x.many(99), 5);
        x.marks(2, BLANK);
        due("many(99) without side 2", x.many(99), 6);
    }

    static void aSideThatStandsCanBeIt() {
        due("tryNext()", told("..;22;..;").tryNext(), 9);
        isAsCounted("..;22;..;");
    }

    static void itIsOpen() {
        NumberedLoops x = told("..;");
        due("tryNext()", x.tryNext(), 0);
        lines(x, 0);
        due("tryNext()", x.tryNext(), 1);
        lines(x, 1);
        due("tryNext()", x.tryNext(), NONE);
        x = told("..;");
        blanks(x, 0);
        due("tryNext()", x.tryNext(), NONE);
    }

    private static void isAsCounted(String text, int... lines) {
        NumberedLoops x = told(text);
        lines(x, lines);
        int many = x.many(10000);
        int sides = x.count(2);
        int[] with = new int[40];
        NumberedLoops y = null;
        for (int k = 0; k < many; k++) {
            if (k % 400 == 0) {
                y = told(text);
                lines(y, lines);
            }
            long loop = y.loop(k);
            for (int side = 0; side < sides; side++) {
                with[side] += (int) (loop >> side & 1);
            }
        }
        int best = NONE;
        for (int side = 0; side < sides; side++) {
            int lesser = Math.min(with[side], many - with[side]);
            boolean better = best == NONE ? lesser > 0 : lesser > Math.min(with[best], many - with[best]);
            best = x.side(side) == OPEN && better ? side : best;
        }
        due("tryNext() of " + text, x.tryNext(), best);
    }

    static void itIsAsCountedOneByOne() {
        for (int w = 1; w <= 4; w++) {
            for (int h = 1; h <= 4; h++) {
                isAsCounted(empty(w, h));
                isAsCounted(empty(w, h), 0);
                isAsCounted(empty(w, h), lastSide(w, h));
            }
        }
        isAsCounted("3..;...;...;");
        isAsCounted("...;.3.;...;");
        isAsCounted("...;.1.;..2;", 4);
        isAsCounted("2..2;....;");
    }

    static void triedSideAfterSideOneLoopIsLeft() {
        NumberedLoops x = fourByFour();
        int many = x.many(10000);
        int next = x.tryNext();
        for (int i = 0; i < 40 && next != NONE; i++) {
            due("side(" + next + ")", x.side(next), OPEN);
            x.marks(next, LINE);
            int with = x.many(10000);
            due("some have it, some don't", with > 0 && with < many ? 1 : 0, 1);
            many = with;
            next = x.tryNext();
        }
        due("many(2)", x.many(2), 1);
        due("tryNext()", x.tryNext(), NONE);
    }

    static void itIsOfTheLoopsThatAreLeft() {
        NumberedLoops x = told("....;");
        int before = x.tryNext();
        x.numbers(0, 4);
        due("tryNext()", x.tryNext(), NONE);
        x.undo();
        due("tryNext()", x.tryNext(), before);
        types(x, ".3.;");
        x.grid();
        due("tryNext() of another grid", x.tryNext(), 0);
        lines(x, 0);
        due("tryNext()", x.tryNext(), NONE);
    }

    static void itChangesNothing() {
        changesNothing("tryNext()", NumberedLoops::new, NumberedLoops::tryNext, 0);
        changesNothing("tryNext()", NumberedLoops::tryNext, busy().tryNext());
    }

    public static void main(String[] args) {
        runAll(Promise20TryNext.class);
    }
}
