/** Promise 6: side. */
public final class Promise06Side extends Due {
    static void allAreOpenAtFirst() {
        for (int w = 1; w <= 4; w++) {
            for (int h = 1; h <= 4; h++) {
                due("sides", sidesSeen(told(empty(w, h))), "0".repeat(lastSide(w, h) + 1));
            }
        }
    }

    static void itIsOpenALineOrBlank() {
        NumberedLoops x = new NumberedLoops();
        due("side(5)", x.side(5), 0);
        x.marks(5, 1);
        due("side(5)", x.side(5), 1);
        x.marks(5, 2);
        due("side(5)", x.side(5), 2);
        x.marks(5, 0);
        due("side(5)", x.side(5), 0);
    }

    static void eachSideIsItsOwn() {
        for (int side = 0; side < 40; side++) {
            NumberedLoops x = told(empty(4, 4));
            x.marks(side, LINE);
            x.marks((side + 1) % 40, BLANK);
            StringBuilder want = new StringBuilder("0".repeat(40));
            want.setCharAt(side, '1');
            want.setCharAt((side + 1) % 40, '2');
            due("sides", sidesSeen(x), want.toString());
        }
    }

    static void theLastSideIsThereAndTheNextIsBad() {
        for (int w = 1; w <= 4; w++) {
            for (int h = 1; h <= 4; h++) {
                NumberedLoops x = told(empty(w, h));
                int last = lastSide(w, h);
                x.marks(last, BLANK);
                due("side(" + last + ")", x.side(last), BLANK);
                due("side(" + (last + 1) + ")", x.side(last + 1), BAD);
            }
        }
    }

    static void belowZeroIsBad() {
        changesNothing("side(-1)", x -> x.side(-1), BAD);
        changesNothing("side(12)", x -> x.side(12), BAD);
    }

    static void farOffIsBad() {
        NumberedLoops x = told(empty(4, 4));
        x.marks(0, LINE);
        x.marks(1, BLANK);
        for (int side : FAR_OFF) {
            due("side(" + side + ")", x.side(side), BAD);
        }
    }

    static void itChangesNothing() {
        changesNothing("side(11)", x -> x.side(11), BLANK);
        changesNothing("side(0)", x -> x.side(0), OPEN);
    }

    public static void main(String[] args) {
        runAll(Promise06Side.class);
    }
}
