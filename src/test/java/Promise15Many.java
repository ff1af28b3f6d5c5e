/** Promise 15: many, and which sets of sides are loops. */
public final class Promise15Many extends Due {
    static void eachGridHasItsLoops() {
        int[][] due = {{1, 3, 6, 10}, {3, 13, 40, 108}, {6, 40, 213, 1049}, {10, 108, 1049, 9349}};
        for (int w = 1; w <= 4; w++) {
            for (int h = 1; h <= 4; h++) {
                due("many(10000) of " + w + " by " + h, told(empty(w, h)).many(10000), due[w - 1][h - 1]);
            }
        }
    }

    static void mostIsTheMost() {
        NumberedLoops x = new NumberedLoops();
        due("many(1)", x.many(1), 1);
        due("many(12)", x.many(12), 12);
        due("many(13)", x.many(13), 13);
        due("many(14)", x.many(14), 13);
        due("many(10000)", x.many(10000), 13);
        x = fourByFour();
        due("many(1)", x.many(1), 1);
        due("many(9348)", x.many(9348), 9348);
        due("many(9349)", x.many(9349), 9349);
        due("many(9350)", x.many(9350), 9349);
        due("many(2) behind it", x.many(2), 2);
        due("many(9999) behind it", x.many(9999), 9349);
    }

    static void mostIsOneToTenThousand() {
        due("many(1)", busy().many(1) >= 0 ? 1 : 0, 1);
        due("many(10000)", busy().many(10000) >= 0 ? 1 : 0, 1);
        for (int most : new int[] {0, -1, 10001, Integer.MAX_VALUE, Integer.MIN_VALUE}) {
            changesNothing("many(" + most + ")", x -> x.many(most), BAD);
        }
    }

    static void withoutALoopItIsZero() {
        due("many(1)", told("0;").many(1), 0);
        due("many(10000)", told("0;").many(10000), 0);
        due("many(10000)", told("44;").many(10000), 0);
        due("many(0)", told("0;").many(0), BAD);
    }

    static void justOneIsOne() {
        due("many(1)", told("4;").many(1), 1);
        due("many(2)", told("4;").many(2), 1);
        due("many(10000)", told("4.;..;").many(10000), 1);
    }

    static void noSidesAreNoLoop() {
        NumberedLoops x = told("0000;0000;0000;0000;");
        due("many(10000)", x.many(10000), 0);
        x = new NumberedLoops();
        blanks(x, 0, 1, 2, 3, 4, 5, 6, 7, 8, 9, 10, 11);
        due("many(10000)", x.many(10000), 0);
    }

    static void twoRingsAreNoLoop() {
        due("many(10000), rings apart", told("4.4;").many(10000), 0);
        NumberedLoops x = told("...;");
        lines(x, 6, 7, 8);
        due("many(10000), a third line between them", x.many(10000), 0);
        x = told("...;...;...;");
        x.numbers(0, 4);
        x.numbers(8, 3);
        due("many(10000), one at each corner", x.many(10000), 0);
    }

    static void ringsThatTouchAtAPointAreNoLoop() {
        NumberedLoops x = new NumberedLoops();
        lines(x, 2, 3, 7, 10);
        due("many(10000)", x.many(10000), 0);
        due("many(10000)", told("4.;.4;").many(10000), 0);
        due("many(10000)", told(".4;4.;").many(10000), 0);
    }

    static void aRingInARingIsNoLoop() {
        NumberedLoops x = told("...;.4.;...;");
        lines(x, 0);
        due("many(10000)", x.many(10000), 0);
        x.marks(0, OPEN);
        due("many(10000)", x.many(10000), 1);
    }

    static void loopsHaveAllLines() {
        NumberedLoops x = new NumberedLoops();
        lines(x, 2);
        due("many(99)", x.many(99), 6);
        lines(x, 3);
        due("many(99)", x.many(99), 2);
        lines(x, 7);
        due("many(99)", x.many(99), 0);
    }

    static void loopsHaveNoBlanks() {
        NumberedLoops x = new NumberedLoops();
        blanks(x, 2);
        due("many(99)", x.many(99), 7);
        blanks(x, 3);
        due("many(99)", x.many(99), 3);
        blanks(x, 7);
        due("many(99)", x.many(99), 1);
        blanks(x, 10);
        due("many(99)", x.many(99), 1);
        blanks(x, 0);
        due("many(99)", x.many(99), 0);
    }

    static void loopsHaveAsManySidesRoundACellAsItsNumberTells() {
        int[] due = {1, 4, 3, 4, 1};
        for (int n = 0; n <= 4; n++) {
            NumberedLoops x = new NumberedLoops();
            x.numbers(0, n);
            int with = 0;
            for (int k = 0; k < 13; k++) {
                with += Long.bitCount(new NumberedLoops().loop(k) & bits(0, 2, 6, 7)) == n ? 1 : 0;
            }
            due("many(99) with a " + n, x.many(99), with);
            due("loops of which " + n + " sides are round the cell", with, due[n]);
        }
    }

    /** Of all loops of a grid without numbers, those with so many sides round the cell are left. */
    static void aNumberInEachCellOfEachGridCounts() {
        for (int w = 1; w <= 4; w++) {
            for (int h = 1; h <= 4; h++) {
                int[][] with = sidesRoundCells(w, h);
                for (int cell = 0; cell < w * h; cell++) {
                    NumberedLoops x = told(empty(w, h));
                    for (int n = 0; n <= 4; n++) {
                        x.numbers(cell, n);
                        due(w + " by " + h + " with " + n + " at " + cell, x.many(10000), with[cell][n]);
                    }
                }
            }
        }
    }

    /** For each cell: how many loops have 0, 1, .. of its sides. Four hundred loops of each object. */
    private static int[][] sidesRoundCells(int w, int h) {
        int[][] with = new int[w * h][5];
        int many = told(empty(w, h)).many(10000);
        NumberedLoops x = null;
        for (int k = 0; k < many; k++) {
            x = k % 400 == 0 ? told(empty(w, h)) : x;
            long loop = x.loop(k);
            for (int cell = 0; cell < w * h; cell++) {
                int column = cell % w;
                int row = cell / w;
                with[cell][Long.bitCount(loop & bits(lying(w, column, row), lying(w, column, row + 1),
                    standing(w, h, column, row), standing(w, h, column + 1, row)))]++;
            }
        }
        return with;
    }

    static void allNumbersCountTogether() {
        due("many(99)", told("33;..;").many(99), 1);
        due("many(99)", told("33;11;").many(99), 1);
        due("many(99)", told("33;12;").many(99), 0);
        due("many(99)", told("22;22;").many(99), 1);
        due("many(99)", told("22;2.;").many(99), 1);
    }

    static void linesThatAreALoopAreOne() {
        NumberedLoops x = new NumberedLoops();
        lines(x, 0, 2, 6, 7);
        due("many(99)", x.many(99), 1);
        due("loop(0)", x.loop(0), bits(0, 2, 6, 7));
    }

    static void itChangesNothing() {
        changesNothing("many(10000)", NumberedLoops::new, x -> x.many(10000), 13);
        changesNothing("many(10000)", x -> x.many(10000), busy().many(10000));
    }

    public static void main(String[] args) {
        runAll(Promise15Many.class);
    }
}
