/** Promise 14: hinted. */
public final class Promise14Hinted extends Due {
    static void withoutAHintItIsZero() {
        due("hinted()", new NumberedLoops().hinted(), 0);
        changesNothing("hinted()", NumberedLoops::new, NumberedLoops::hinted, 0);
    }

    static void aClashIsZero() {
        NumberedLoops x = told("0;");
        lines(x, 0);
        due("hint(0)", x.hint(0), CLASH);
        due("hinted()", x.hinted(), 0);
        x = new NumberedLoops();
        lines(x, 2, 3, 7);
        hintIs(x, CLASH, 1, 4);
        due("hinted()", x.hinted(), 0);
    }

    static void eachSideIsABit() {
        due("hinted()", told("4.;..;").hinted(), 1 + 4 + 64 + 128);
        due("hinted()", told("..;.0;").hinted(), 8 + 32 + 1024 + 2048);
    }

    static void theHighestSidesAreBitsToo() {
        due("hinted()", told("....;....;....;...4;").hinted(), 1L << 15 | 1L << 19 | 1L << 38 | 1L << 39);
        due("hinted()", told("....;....;....;...0;").hinted(), 1L << 15 | 1L << 19 | 1L << 38 | 1L << 39);
        NumberedLoops x = fourByFour();
        lines(x, 19);
        due("hinted()", x.hinted(), 1L << 39);
        x = fourByFour();
        blanks(x, 39);
        due("hinted()", x.hinted(), 1L << 19);
    }

    static void openSidesAloneAreAmongThem() {
        NumberedLoops x = told("3.;..;");
        lines(x, 6);
        blanks(x, 2);
        due("hinted()", x.hinted(), bits(0, 7));
        lines(x, 7);
        due("hinted()", x.hinted(), bits(0));
    }

    static void itIsOfTheFirstHintAlone() {
        due("hinted()", told("0.;.4;").hinted(), bits(0, 2, 6, 7));
    }

    static void itIsWhatAStepChanges() {
        NumberedLoops x = told("3..;...;..2;");
        lines(x, 3);
        blanks(x, 11);
        for (int i = 0; i < 20; i++) {
            long told = x.hinted();
            int as = x.hint(0);
            if (x.step() < 0) {
                due("hinted() without a hint", told, 0);
                break;
            }
            for (int side = 0; side < 24; side++) {
                if ((told >> side & 1) == 1) {
                    due("side(" + side + ")", x.side(side), as == BLANKS ? BLANK : LINE);
                }
            }
        }
    }

    static void itHasAsManySidesAsHintSays() {
        NumberedLoops x = told("3..;...;..2;");
        lines(x, 3);
        for (int i = 0; i < 20 && x.hint(3) > 0; i++) {
            due("hint(3)", x.hint(3), Long.bitCount(x.hinted()));
            x.step();
        }
    }

    static void itChangesNothing() {
        changesNothing("hinted()", () -> told("4.;.1;"), NumberedLoops::hinted, bits(0, 2, 6, 7));
        changesNothing("hinted()", NumberedLoops::hinted, busy().hinted());
    }

    public static void main(String[] args) {
        runAll(Promise14Hinted.class);
    }
}
