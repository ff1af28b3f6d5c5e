/** Promise 5: number. */
public final class Promise05Number extends Due {
    static void aNumberIsZeroToFour() {
        NumberedLoops x = told("01;23;4.;");
        for (int n = 0; n <= 4; n++) {
            due("number(" + n + ")", x.number(n), n);
        }
    }

    static void aCellWithoutOneAnswersNone() {
        due("number(5)", told("01;23;4.;").number(5), NONE);
        due("number(0)", new NumberedLoops().number(0), NONE);
    }

    static void cellsAreNumberedRowByRow() {
        NumberedLoops x = told("1...;.2..;..3.;...4;");
        due("numbers", numbersSeen(x), " 1 -9 -9 -9 -9 2 -9 -9 -9 -9 3 -9 -9 -9 -9 4");
        x = told("0.2;1.4;");
        due("numbers", numbersSeen(x), " 0 -9 2 1 -9 4");
    }

    static void theLastCellIsThereAndTheNextIsBad() {
        for (int w = 1; w <= 4; w++) {
            for (int h = 1; h <= 4; h++) {
                NumberedLoops x = told(empty(w, h));
                x.numbers(w * h - 1, 3);
                due("number of the last", x.number(w * h - 1), 3);
                due("number of one more", x.number(w * h), BAD);
            }
        }
    }

    static void belowZeroIsBad() {
        changesNothing("number(-1)", x -> x.number(-1), BAD);
        changesNothing("number(4)", x -> x.number(4), BAD);
    }

    static void farOffIsBad() {
        NumberedLoops x = told(empty(4, 4));
        for (int cell : FAR_OFF) {
            due("number(" + cell + ")", x.number(cell), BAD);
        }
    }

    static void itChangesNothing() {
        changesNothing("number(0)", x -> x.number(0), 3);
        changesNothing("number(1)", x -> x.number(1), NONE);
    }

    public static void main(String[] args) {
        runAll(Promise05Number.class);
    }
}
