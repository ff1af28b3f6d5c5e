/** Promise 16: loop, and the loops' order. */
public final class Promise16Loop extends Due {
    static void theLesserComesFirst() {
        NumberedLoops x = told("..;");
        due("loop(0)", x.loop(0), bits(0, 2, 4, 5));
        due("loop(1)", x.loop(1), bits(0, 1, 2, 3, 4, 6));
        due("loop(2)", x.loop(2), bits(1, 3, 5, 6));
        due("loop(3)", x.loop(3), NONE);
    }

    static void allOfEachGridAreInOrder() {
        for (int w = 1; w <= 4; w++) {
            for (int h = 1; h <= 4; h++) {
                allAreInOrder(w, h, told(empty(w, h)).many(10000));
            }
        }
    }

    /** Four hundred with each object, since none is asked more than 512 times. */
    private static void allAreInOrder(int w, int h, int many) {
        long before = 0;
        NumberedLoops x = null;
        for (int k = 0; k < many; k++) {
            x = k % 400 == 0 ? told(empty(w, h)) : x;
            long loop = x.loop(k);
            due("loop(" + k + ") is above the one before", loop > before ? 1 : 0, 1);
            due("loop(" + k + ") is one ring", isOneRing(w, h, loop) ? 1 : 0, 1);
            before = loop;
        }
        due("loop(" + many + ")", told(empty(w, h)).loop(many), NONE);
    }

    /** From its first side on, point by point, till it is back: then no side is left. */
    private static boolean isOneRing(int w, int h, long loop) {
        int[] from = new int[64];
        int[] to = new int[64];
        for (int side = 0; side <= lastSide(w, h); side++) {
            boolean lies = side < w * (h + 1);
            int stands = side - w * (h + 1);
            from[side] = lies ? side / w * (w + 1) + side % w : stands;
            to[side] = lies ? from[side] + 1 : stands + w + 1;
        }
        int first = Long.numberOfTrailingZeros(loop);
        long left = loop & ~(1L << first);
        int at = to[first];
        int sides = 1;
        for (int i = 0; i < 40 && at != from[first]; i++) {
            long next = 0;
            for (int side = 0; side <= lastSide(w, h); side++) {
                if ((left >> side & 1) == 1 && (from[side] == at || to[side] == at)) {
                    next |= 1L << side;
                }
            }
            if (Long.bitCount(next) != 1) {
                return false;
            }
            int side = Long.numberOfTrailingZeros(next);
            at = from[side] == at ? to[side] : from[side];
            left &= ~next;
            sides++;
        }
        return at == from[first] && left == 0 && sides >= 4;
    }

    static void sideKCountsTwoToThePowerOfK() {
        due("loop(0) of one cell", told(".;").loop(0), 15);
        NumberedLoops x = told("....;....;....;...4;");
        due("loop(0)", x.loop(0), (1L << 15) + (1L << 19) + (1L << 38) + (1L << 39));
    }

    static void theFirstAndTheLastOfThemAll() {
        NumberedLoops x = fourByFour();
        due("loop(0)", x.loop(0), bits(0, 4, 20, 21));
        due("loop(9348) has the highest side", x.loop(9348) >> 39, 1);
        due("loop(9349)", x.loop(9349), NONE);
        due("loop(9348) is above loop(9347)", x.loop(9348) > x.loop(9347) ? 1 : 0, 1);
    }

    static void whereThereAreNotSoManyItIsNone() {
        due("loop(12)", new NumberedLoops().loop(12), 3490);
        due("loop(13)", new NumberedLoops().loop(13), NONE);
        due("loop(9999)", new NumberedLoops().loop(9999), NONE);
        due("loop(9999)", fourByFour().loop(9999), NONE);
    }

    static void withoutALoopItIsNone() {
        due("loop(0)", told("0;").loop(0), NONE);
        due("loop(9999)", told("0;").loop(9999), NONE);
    }

    static void justOneIsTheFirst() {
        NumberedLoops x = told(".4;..;");
        due("loop(0)", x.loop(0), bits(1, 3, 7, 8));
        due("loop(1)", x.loop(1), NONE);
    }

    static void kIsZeroTo9999() {
        for (int k : new int[] {-1, 10000, Integer.MAX_VALUE, Integer.MIN_VALUE}) {
            changesNothing("loop(" + k + ")", x -> x.loop(k), BAD);
            changesNothing("loop(" + k + ")", NumberedLoops::new, x -> x.loop(k), BAD);
        }
        due("loop(-1) without a loop", told("0;").loop(-1), BAD);
        due("loop(10000) without a loop", told("0;").loop(10000), BAD);
    }

    static void theOrderIsTheSameWithNumbersAndMarks() {
        NumberedLoops x = told("3..;...;");
        lines(x, 4);
        blanks(x, 15);
        int many = x.many(99);
        int k = 0;
        NumberedLoops y = told("...;...;");
        for (int i = 0; i < 40; i++) {
            long loop = y.loop(i);
            if (Long.bitCount(loop & bits(0, 3, 9, 10)) == 3 && (loop >> 4 & 1) == 1 && (loop >> 15 & 1) == 0) {
                due("loop(" + k + ")", x.loop(k), loop);
                k++;
            }
        }
        due("many(99)", many, k);
        due("loop(" + k + ")", x.loop(k), NONE);
    }

    static void itDoesNotMatterWhatMostWas() {
        NumberedLoops x = new NumberedLoops();
        due("many(1)", x.many(1), 1);
        due("loop(12)", x.loop(12), 3490);
        due("many(2)", x.many(2), 2);
        due("loop(2)", x.loop(2), new NumberedLoops().loop(2));
    }

    /** Behind each call that changes something, asked for at once: not what was there before. */
    static void itIsOfTheLoopsThatAreLeft() {
        NumberedLoops x = told("..;");
        due("loop(0)", x.loop(0), bits(0, 2, 4, 5));
        x.keep(0);
        blanks(x, 0);
        due("loop(0) behind marks()", x.loop(0), bits(1, 3, 5, 6));
        due("loop(1) behind marks()", x.loop(1), NONE);
        x.undo();
        due("loop(1) behind undo()", x.loop(1), bits(0, 1, 2, 3, 4, 6));
        x.numbers(1, 3);
        due("loop(0) behind numbers()", x.loop(0), bits(0, 1, 2, 3, 4, 6));
        due("loop(1) behind numbers()", x.loop(1), NONE);
        x.back(0);
        due("loop(2) behind back()", x.loop(2), bits(1, 3, 5, 6));
        types(x, ".;");
        x.grid();
        due("loop(0) behind grid()", x.loop(0), 15);
        due("loop(1) behind grid()", x.loop(1), NONE);
    }

    static void itChangesNothing() {
        changesNothing("loop(0)", NumberedLoops::new, x -> x.loop(0), 197);
        changesNothing("loop(0)", x -> x.loop(0), busy().loop(0));
    }

    public static void main(String[] args) {
        runAll(Promise16Loop.class);
    }
}
