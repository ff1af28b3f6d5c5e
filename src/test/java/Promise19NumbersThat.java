/** Promise 19: numbersThat. */
public final class Promise19NumbersThat extends Due {
    private static void are(String text, int many, int needless, int blame) {
        NumberedLoops x = told(text);
        due("numbersThat(0) of " + text, x.numbersThat(0), needless);
        due("numbersThat(1) of " + text, x.numbersThat(1), blame);
        due("many(2) of " + text, x.many(2), many);
    }

    static void withJustOneLoopNeedlessOnesAreTold() {
        are("4;", 1, 0b1, 0);
        are("41;", 1, 0b11, 0);
        are("33;11;", 1, 0b1111, 0);
        are("22;22;", 1, 0b1111, 0);
    }

    static void aNumberThatTheOneLoopNeedsIsNotNeedless() {
        are("4.;", 1, 0, 0);
        are("33;..;", 1, 0, 0);
        are("4..;..0;", 1, 0b100000, 0);
    }

    static void thatAloneBecomesNone() {
        // Each of them can go as long as the other stays.
        NumberedLoops x = told("41;");
        due("numbersThat(0)", x.numbersThat(0), 3);
        x.numbers(0, -1);
        due("many(9)", x.many(9), 1);
        due("numbersThat(0)", x.numbersThat(0), 0);
        x = told("41;");
        x.numbers(1, -1);
        due("many(9)", x.many(9), 1);
        due("numbersThat(0)", x.numbersThat(0), 0);
    }

    static void withoutALoopNothingIsNeedless() {
        are("44;", 0, 0, 0b11);
        are("00;", 0, 0, 0);
    }

    static void withSeveralLoopsNothingIsNeedlessNorToBlame() {
        are("..;", 2, 0, 0);
        are("3.;..;", 2, 0, 0);
        are("2.;..;", 2, 0, 0);
        are("1...;....;....;....;", 2, 0, 0);
    }

    static void withJustOneLoopNothingIsToBlame() {
        are("4;", 1, 1, 0);
        are(".;", 1, 0, 0);
    }

    static void withoutALoopThoseToBlameAreTold() {
        are("0;", 0, 0, 0b1);
        are("40;", 0, 0, 0b10);
        are("4.4;", 0, 0, 0b101);
        are("33;12;", 0, 0, 0b1000);
    }

    static void whatWouldLeaveSeveralIsToBlameToo() {
        are("0.;", 0, 0, 0b1);
        are("....;....;....;...0;", 2, 0, 0);
        are("2...;", 0, 0, 0b1);
    }

    static void whereNoOneAloneIsToBlameItIsZero() {
        are("444;", 0, 0, 0);
        are("00;", 0, 0, 0);
        NumberedLoops x = new NumberedLoops();
        lines(x, 2, 3, 7);
        due("many(1)", x.many(1), 0);
        due("numbersThat(1) without numbers", x.numbersThat(1), 0);
        x.numbers(0, 2);
        due("numbersThat(1) when marks are to blame", x.numbersThat(1), 0);
    }

    static void cellsWithoutANumberAreNotAmongThem() {
        NumberedLoops x = told("4...;....;....;....;");
        x.numbers(15, 0);
        due("numbersThat(0)", x.numbersThat(0), 1 << 15);
        x.numbers(15, 1);
        due("numbersThat(1)", x.numbersThat(1), 1 << 15 | 1);
    }

    static void theLastCellIsABitToo() {
        NumberedLoops x = told("....;....;....;...4;");
        due("numbersThat(0)", x.numbersThat(0), 0);
        lines(x, 15, 19, 38, 39);
        due("numbersThat(0)", x.numbersThat(0), 1 << 15);
        x.marks(39, BLANK);
        due("numbersThat(1)", x.numbersThat(1), 0);
        x.marks(39, LINE);
        x.numbers(15, 3);
        due("numbersThat(1)", x.numbersThat(1), 1 << 15);
    }

    static void marksCountToo() {
        NumberedLoops x = told("4.4;");
        due("numbersThat(1)", x.numbersThat(1), 0b101);
        lines(x, 0);
        due("numbersThat(1), a line there", x.numbersThat(1), 0b101 & ~1);
        x = told("4.;");
        due("numbersThat(0)", x.numbersThat(0), 0);
        blanks(x, 1);
        due("numbersThat(0), a blank there", x.numbersThat(0), 1);
    }

    static void theyAreThoseOneByOne() {
        String[] texts = {"33;11;", "3.3;...;3.3;", ".2.;.3.;3.3;", "22;22;", "222;3.3;", "42;1.;", "0.;.0;", "23;32;"};
        for (String text : texts) {
            NumberedLoops x = told(text);
            int now = x.many(2);
            int needless = 0;
            int blame = 0;
            int cells = x.count(0) * x.count(1);
            for (int cell = 0; cell < cells; cell++) {
                if (x.number(cell) != NONE) {
                    x.numbers(cell, -1);
                    int then = x.many(2);
                    needless |= now == 1 && then == 1 ? 1 << cell : 0;
                    blame |= now == 0 && then > 0 ? 1 << cell : 0;
                    x.undo();
                }
            }
            due("numbersThat(0) of " + text, x.numbersThat(0), needless);
            due("numbersThat(1) of " + text, x.numbersThat(1), blame);
        }
    }

    /** Behind each call that changes something, asked for at once: not what was there before. */
    static void theyAreOfTheLoopsThatAreLeft() {
        NumberedLoops x = told("41;");
        due("numbersThat(0)", x.numbersThat(0), 0b11);
        x.keep(0);
        blanks(x, 0);
        due("numbersThat(0) behind marks()", x.numbersThat(0), 0);
        due("numbersThat(1) behind marks()", x.numbersThat(1), 0);
        x.undo();
        due("numbersThat(0) behind undo()", x.numbersThat(0), 0b11);
        x.numbers(1, 0);
        due("numbersThat(0) behind numbers()", x.numbersThat(0), 0);
        due("numbersThat(1) behind numbers()", x.numbersThat(1), 0b10);
        x.back(0);
        due("numbersThat(1) behind back()", x.numbersThat(1), 0);
        due("numbersThat(0) behind back()", x.numbersThat(0), 0b11);
        due("step()", x.step(), 4);
        due("numbersThat(0) behind step()", x.numbersThat(0), 0b11);
        types(x, "0;");
        x.grid();
        due("numbersThat(1) behind grid()", x.numbersThat(1), 1);
        due("numbersThat(0) behind grid()", x.numbersThat(0), 0);
    }

    /** What followed from a number stands when it goes: the sides stay as they are marked. */
    static void sidesThatFollowedFromANumberStay() {
        NumberedLoops x = told("4.;");
        due("numbersThat(0)", x.numbersThat(0), 0);
        x.spreads();
        due("numbersThat(0) behind spreads()", x.numbersThat(0), 1);
        x.undo();
        due("numbersThat(0) behind undo()", x.numbersThat(0), 0);
    }

    static void whatIsZeroOrOne() {
        for (int what : new int[] {-1, 2, Integer.MAX_VALUE, Integer.MIN_VALUE}) {
            changesNothing("numbersThat(" + what + ")", x -> x.numbersThat(what), BAD);
            changesNothing("numbersThat(" + what + ")", NumberedLoops::new, x -> x.numbersThat(what), BAD);
            due("numbersThat(" + what + ") without a loop", told("0;").numbersThat(what), BAD);
            due("numbersThat(" + what + ") of one loop", told("4;").numbersThat(what), BAD);
        }
    }

    static void itChangesNothing() {
        changesNothing("numbersThat(0)", () -> told("33;11;"), x -> x.numbersThat(0), 15);
        changesNothing("numbersThat(1)", () -> told("33;12;"), x -> x.numbersThat(1), 8);
        changesNothing("numbersThat(1)", x -> x.numbersThat(1), busy().numbersThat(1));
        NumberedLoops x = told("33;12;");
        x.numbersThat(1);
        due("many(9) behind it", x.many(9), 0);
        due("loop(0) behind it", x.loop(0), NONE);
        x = told("33;11;");
        x.numbersThat(0);
        due("many(9) behind it", x.many(9), 1);
        due("loop(0) behind it", x.loop(0), bits(0, 1, 2, 3, 6, 8));
    }

    public static void main(String[] args) {
        runAll(Promise19NumbersThat.class);
    }
}
