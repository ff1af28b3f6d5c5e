/** Promise 18: inside. */
public final class Promise18Inside extends Due {
    static void eachCellIsABit() {
        NumberedLoops x = told("..;");
        due("inside(0)", x.inside(0), 1);
        due("inside(1)", x.inside(1), 3);
        due("inside(2)", x.inside(2), 2);
    }

    static void theLastCellIsABitToo() {
        due("inside(0)", told("....;....;....;...4;").inside(0), 1 << 15);
        NumberedLoops x = fourByFour();
        lines(x, 0, 1, 2, 3, 16, 17, 18, 19, 20, 25, 30, 35, 24, 29, 34, 39);
        due("inside(0) of the loop round all", x.inside(0), 0xffff);
    }

    static void aCellThatIsOpenToTheOutsideIsNotInside() {
        NumberedLoops x = told(".2.;.3.;3.3;");
        due("many(10)", x.many(10), 1);
        due("inside(0)", x.inside(0), 0b101101111);
        x = told("...;...;");
        lines(x, 0, 3, 9, 2, 5, 12, 1, 4);
        due("many(10)", x.many(10), 1);
        due("inside(0)", x.inside(0), 0b111);
    }

    /** The sides of the cells inside, those between two of them left out, are the loop. */
    static void theLoopIsWhatLiesRoundTheCellsInside() {
        for (int w = 1; w <= 4; w++) {
            for (int h = 1; h <= 4; h++) {
                int many = told(empty(w, h)).many(10000);
                NumberedLoops x = null;
                for (int k = 0; k < many; k++) {
                    x = k % 200 == 0 ? told(empty(w, h)) : x;
                    due("round inside(" + k + ")", round(w, h, x.inside(k)), x.loop(k));
                }
                due("inside(" + many + ")", told(empty(w, h)).inside(many), NONE);
            }
        }
    }

    private static long round(int w, int h, int cells) {
        long round = 0;
        for (int cell = 0; cell < w * h; cell++) {
            if ((cells >> cell & 1) == 1) {
                int x = cell % w;
                int y = cell / w;
                round ^= bits(lying(w, x, y), lying(w, x, y + 1), standing(w, h, x, y), standing(w, h, x + 1, y));
            }
        }
        return round;
    }

    static void whereThereAreNotSoManyItIsNone() {
        NumberedLoops x = new NumberedLoops();
        due("inside(12) is there", x.inside(12) > 0 ? 1 : 0, 1);
        due("inside(13)", x.inside(13), NONE);
        due("inside(9999)", x.inside(9999), NONE);
        due("inside(9348) is there", fourByFour().inside(9348) > 0 ? 1 : 0, 1);
        due("inside(9349)", fourByFour().inside(9349), NONE);
    }

    static void withoutALoopItIsNone() {
        due("inside(0)", told("0;").inside(0), NONE);
        due("inside(9999)", told("0;").inside(9999), NONE);
    }

    static void justOneIsTheFirst() {
        NumberedLoops x = told(".4;..;");
        due("inside(0)", x.inside(0), 2);
        due("inside(1)", x.inside(1), NONE);
    }

    static void kIsZeroTo9999() {
        for (int k : new int[] {-1, 10000, Integer.MAX_VALUE, Integer.MIN_VALUE}) {
            changesNothing("inside(" + k + ")", x -> x.inside(k), BAD);
            changesNothing("inside(" + k + ")", NumberedLoops::new, x -> x.inside(k), BAD);
        }
        due("inside(-1) without a loop", told("0;").inside(-1), BAD);
        due("inside(10000) without a loop", told("0;").inside(10000), BAD);
    }

    /** Behind each call that changes something, asked for at once: not what was there before. */
    static void itIsOfTheLoopsThatAreLeft() {
        NumberedLoops x = told("..;");
        due("inside(0)", x.inside(0), 1);
        x.keep(0);
        blanks(x, 0);
        due("inside(0) behind marks()", x.inside(0), 2);
        due("inside(1) behind marks()", x.inside(1), NONE);
        x.undo();
        due("inside(1) behind undo()", x.inside(1), 3);
        x.numbers(1, 3);
        due("inside(0) behind numbers()", x.inside(0), 3);
        due("inside(1) behind numbers()", x.inside(1), NONE);
        x.back(0);
        due("inside(2) behind back()", x.inside(2), 2);
        types(x, ".;.;");
        x.grid();
        due("inside(1) behind grid()", x.inside(1), 2);
        due("inside(2) behind grid()", x.inside(2), 3);
    }

    static void itChangesNothing() {
        changesNothing("inside(0)", NumberedLoops::new, x -> x.inside(0), 1);
        changesNothing("inside(0)", x -> x.inside(0), busy().inside(0));
    }

    public static void main(String[] args) {
        runAll(Promise18Inside.class);
    }
}
