/** Promise 8: marks. */
public final class Promise08Marks extends Due {
    /** A side of a new object that is marked so, the mark standing among what can be undone. */
    private static NumberedLoops marked(int side, int as) {
        NumberedLoops x = busy();
        x.marks(side, LINE);
        x.marks(side, BLANK);
        x.marks(side, OPEN);
        x.marks(side, as);
        return x;
    }

    static void itAnswersWhatTheSideWas() {
        for (int was = 0; was <= 2; was++) {
            for (int as = 0; as <= 2; as++) {
                if (was != as) {
                    NumberedLoops x = marked(0, was);
                    due("marks(0, " + as + ")", x.marks(0, as), was);
                    due("side(0)", x.side(0), as);
                }
            }
        }
    }

    static void whatItIsAlreadyIsRefused() {
        for (int as = 0; as <= 2; as++) {
            int it = as;
            changesNothing("marks(0, " + as + ")", () -> marked(0, it), x -> x.marks(0, it), STATE);
        }
    }

    static void openAtFirstIsOpenAlready() {
        for (int side = 0; side < 12; side++) {
            due("marks(" + side + ", 0)", new NumberedLoops().marks(side, OPEN), STATE);
        }
    }

    static void noOtherSideChanges() {
        NumberedLoops x = told(empty(4, 4));
        for (int side = 0; side < 40; side++) {
            due("marks(" + side + ", 1)", x.marks(side, 1 + side % 2), OPEN);
        }
        due("sides", sidesSeen(x), "12".repeat(20));
        x.marks(20, OPEN);
        x.marks(21, LINE);
        due("sides", sidesSeen(x), "12".repeat(10) + "01" + "12".repeat(9));
    }

    static void theLastSideIsMarkedAndTheNextIsBad() {
        for (int w = 1; w <= 4; w++) {
            for (int h = 1; h <= 4; h++) {
                NumberedLoops x = told(empty(w, h));
                int last = lastSide(w, h);
                due("marks(" + last + ", 1)", x.marks(last, LINE), OPEN);
                due("marks(" + (last + 1) + ", 1)", x.marks(last + 1, LINE), BAD);
                due("count(3)", x.count(3), 1);
            }
        }
    }

    private static void isBad(int side, int as) {
        changesNothing("marks(" + side + ", " + as + ")", x -> x.marks(side, as), BAD);
    }

    static void aSideBelowZeroIsBad() {
        isBad(-1, OPEN);
        isBad(-1, LINE);
        isBad(-1, BLANK);
        isBad(Integer.MIN_VALUE, LINE);
    }

    static void aSideThatIsNotThereIsBad() {
        isBad(12, OPEN);
        isBad(12, LINE);
        isBad(12, BLANK);
        for (int side : FAR_OFF) {
            isBad(side, LINE);
        }
    }

    static void asIsZeroToTwo() {
        isBad(0, -1);
        isBad(0, 3);
        isBad(11, 3);
        isBad(0, -9);
        isBad(0, Integer.MAX_VALUE);
        isBad(0, Integer.MIN_VALUE);
    }

    static void bothWrongIsBad() {
        isBad(12, 3);
        isBad(-1, -1);
    }

    static void itCanBeUndone() {
        NumberedLoops x = new NumberedLoops();
        x.marks(3, LINE);
        due("count(7)", x.count(7), 1);
        x.marks(3, BLANK);
        due("count(7)", x.count(7), 2);
        due("undo()", x.undo(), 1);
        due("side(3)", x.side(3), LINE);
        due("undo()", x.undo(), 0);
        due("side(3)", x.side(3), OPEN);
    }

    static void itIsMarkedInAClashToo() {
        NumberedLoops x = told("0;");
        due("marks(0, 1)", x.marks(0, LINE), OPEN);
        hintIs(x, CLASH, 0, 0);
        due("marks(1, 1)", x.marks(1, LINE), OPEN);
        due("marks(0, 2)", x.marks(0, BLANK), LINE);
    }

    static void whatFollowsChangesToo() {
        NumberedLoops x = new NumberedLoops();
        due("many(99)", x.many(99), 13);
        noHint(x);
        x.marks(0, LINE);
        due("many(99)", x.many(99), 7);
        hintIs(x, LINES, 1, 0, 6);
        x.marks(0, BLANK);
        due("many(99)", x.many(99), 6);
        hintIs(x, BLANKS, 1, 0, 6);
        x.marks(0, OPEN);
        due("many(99)", x.many(99), 13);
        noHint(x);
    }

    public static void main(String[] args) {
        runAll(Promise08Marks.class);
    }
}
