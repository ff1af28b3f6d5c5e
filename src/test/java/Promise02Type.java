/** Promise 2: type. */
public final class Promise02Type extends Due {
    static void itAnswersHowManyLettersTheTextHas() {
        NumberedLoops x = new NumberedLoops();
        for (int i = 1; i <= 40; i++) {
            due("type(46)", x.type(46), i);
            due("count(6)", x.count(6), i);
        }
    }

    static void eachLetterFrom0To255IsTaken() {
        for (int letter = 0; letter <= 255; letter++) {
            due("type(" + letter + ")", new NumberedLoops().type(letter), 1);
        }
    }

    static void belowZeroIsBad() {
        changesNothing("type(-1)", x -> x.type(-1), BAD);
        changesNothing("type(MIN)", x -> x.type(Integer.MIN_VALUE), BAD);
    }

    static void above255IsBad() {
        for (int letter : new int[] {256, 256 + '1', 65536 + '1', Integer.MAX_VALUE}) {
            changesNothing("type(" + letter + ")", x -> x.type(letter), BAD);
        }
    }

    static void the40thIsTakenAndThe41stIsFull() {
        NumberedLoops x = typed(".".repeat(39));
        due("type(46), the 40th", x.type(46), 40);
        changesNothing("type(46), the 41st", Promise02Type::full, y -> y.type(46), FULL);
        changesNothing("type(32), the 41st", Promise02Type::full, y -> y.type(32), FULL);
        changesNothing("type(0), the 41st", Promise02Type::full, y -> y.type(0), FULL);
        changesNothing("type(255), the 41st", Promise02Type::full, y -> y.type(255), FULL);
    }

    static void badGoesAheadOfFull() {
        changesNothing("type(-1) when full", Promise02Type::full, x -> x.type(-1), BAD);
        changesNothing("type(256) when full", Promise02Type::full, x -> x.type(256), BAD);
    }

    static void aLetterThatWasRefusedDoesNotCome() {
        NumberedLoops x = typed("1");
        x.type(-1);
        x.type(256);
        due("type(59)", x.type(';'), 2);
        due("grid()", x.grid(), 1);
        x = full();
        x.type('x');
        due("grid() of forty letters, the 41st refused", x.grid(), 4);
    }

    static void itIsTakenAgainWhenTheTextIsEmptied() {
        NumberedLoops x = full();
        due("clear()", x.clear(), 40);
        due("type(46)", x.type(46), 1);
        x = full();
        due("grid()", x.grid(), 4);
        due("type(46)", x.type(46), 1);
    }

    static void nothingButTheTextChanges() {
        NumberedLoops x = busy();
        NumberedLoops y = busy();
        x.type('1');
        due("clear()", x.clear(), y.clear() + 1);
        due("all there is", emptied(x), emptied(y));
    }

    private static NumberedLoops full() {
        return typed("1234;....;0000;4321;" + " ".repeat(20));
    }

    public static void main(String[] args) {
        runAll(Promise02Type.class);
    }
}
