import java.util.Arrays;

/** Promise 13, rule 2: chains that would close too soon. */
public final class Promise13Rule2 extends Due {
    static void aClosedChainAloneIsNeither() {
        NumberedLoops x = new NumberedLoops();
        lines(x, 0, 2, 6, 7);
        x.spreads();
        noHint(x);
    }

    static void aClosedChainAndAnotherClash() {
        NumberedLoops x = told("...;");
        lines(x, 2, 5, 8, 9, 0, 3, 6, 7);
        blanks(x, 1, 4);
        hintIs(x, CLASH, 2, 0);
    }

    static void aClosedChainAndALooseLineClash() {
        NumberedLoops x = told("....;");
        lines(x, 0, 4, 8, 9);
        blanks(x, 1, 5);
        noHint(x);
        lines(x, 11);
        hintIs(x, CLASH, 2, 0);
    }

    /** A ring round the last of four by four cells, with blanks at its points. */
    private static NumberedLoops ringRoundTheLast() {
        NumberedLoops x = fourByFour();
        lines(x, 15, 19, 38, 39);
        blanks(x, 14, 33, 34, 18);
        noHint(x);
        return x;
    }

    static void aLooseLineIsNoClashAtItsOwnPlace() {
        NumberedLoops x = ringRoundTheLast();
        lines(x, 5);
        hintIs(x, CLASH, 2, 15);
    }

    static void openChainsAreNoClash() {
        NumberedLoops x = fourByFour();
        lines(x, 5, 7, 13);
        noHint(x);
    }

    static void aNumberThatAClosedChainMissesIsNoClashOfThisRule() {
        NumberedLoops x = ringRoundTheLast();
        x.numbers(0, 2);
        noHint(x);
    }

    /** Three sides of a cell among others are lines, the one above it is open. */
    private static NumberedLoops openAbove() {
        NumberedLoops x = fourByFour();
        lines(x, 9, 26, 27);
        blanks(x, 8, 10, 31, 32);
        return x;
    }

    static void toCloseTheOnlyChainIsNeither() {
        noHint(openAbove());
    }

    static void toCloseAChainWithAnotherLineIsBlank() {
        NumberedLoops x = openAbove();
        lines(x, 15);
        hintIs(x, BLANKS, 2, 5, 5);
    }

    static void toCloseALongChainWithAnotherLineIsBlank() {
        NumberedLoops x = fourByFour();
        lines(x, 5, 6, 28, 9, 26);
        blanks(x, 4, 21, 22, 27, 7, 23, 8, 31);
        noHint(x);
        lines(x, 17);
        hintIs(x, BLANKS, 2, 10, 10);
    }

    static void toJoinTwoChainsIsNeither() {
        NumberedLoops x = fourByFour();
        lines(x, 5, 7);
        noHint(x);
        lines(x, 13);
        noHint(x);
    }

    static void toJoinTwoChainsIsNeitherWhenANumberNeedsMore() {
        NumberedLoops x = fourByFour();
        lines(x, 5, 7);
        x.numbers(15, 2);
        noHint(x);
        x.numbers(2, 2);
        noHint(x);
    }

    static void linesAtOneOfThePointsAloneAreNeitherWhenANumberNeedsMore() {
        NumberedLoops x = fourByFour();
        lines(x, 5);
        x.numbers(15, 2);
        noHint(x);
    }

    static void linesAtOneOfThePointsAloneAreNeither() {
        NumberedLoops x = fourByFour();
        lines(x, 5, 11);
        noHint(x);
    }

    static void aBlankSideIsNeither() {
        NumberedLoops x = openAbove();
        lines(x, 15);
        blanks(x, 5);
        due("hint(1) is not of rule 2", x.hint(1) == 2 ? 1 : 0, 0);
    }

    static void toCloseAChainWhenANumberNeedsMoreIsBlank() {
        for (int n = 1; n <= 3; n++) {
            NumberedLoops x = openAbove();
            x.numbers(15, n);
            hintIs(x, BLANKS, 2, 5, 5);
            x.numbers(15, -1);
            x.numbers(0, n);
            hintIs(x, BLANKS, 2, 5, 5);
        }
    }

    static void theSideItselfCountsForTheNumber() {
        NumberedLoops x = openAbove();
        x.numbers(1, 1);
        noHint(x);
        x.numbers(1, 2);
        hintIs(x, BLANKS, 2, 5, 5);
    }

    static void aNumberThatIsMetAlreadyIsNeither() {
        NumberedLoops x = openAbove();
        blanks(x, 13);
        x.numbers(9, 1);
        noHint(x);
    }

    static void openSidesOfACellCountAsBlank() {
        NumberedLoops x = openAbove();
        x.numbers(6, 2);
        hintIs(x, BLANKS, 2, 5, 5);
        x.numbers(6, 1);
        hintIs(x, BLANKS, 0, 6, 6, 28);
    }

    static void oneNumberThatIsNotMetIsEnough() {
        NumberedLoops x = openAbove();
        blanks(x, 13);
        x.numbers(9, 1);
        x.numbers(1, 1);
        noHint(x);
        x.numbers(3, 1);
        hintIs(x, BLANKS, 2, 5, 5);
    }

    static void aLowerOpenSideGoesAheadOfAClash() {
        NumberedLoops x = ringRoundTheLast();
        lines(x, 9, 26, 27);
        blanks(x, 8, 10, 31, 32);
        hintIs(x, BLANKS, 2, 5, 5);
        blanks(x, 5);
        hintIs(x, CLASH, 2, 15);
    }

    static void aClashGoesAheadOfALaterOpenSide() {
        NumberedLoops x = fourByFour();
        lines(x, 0, 4, 20, 21);
        blanks(x, 1, 5, 25, 26);
        lines(x, 14, 32, 33);
        blanks(x, 13, 15, 37, 38);
        hintIs(x, CLASH, 2, 0);
    }

    static void theLowestOfSeveralOpenSidesIsTold() {
        NumberedLoops x = openAbove();
        lines(x, 11, 28, 29);
        blanks(x, 33, 34);
        hintIs(x, BLANKS, 2, 5, 5);
        blanks(x, 5);
        hintIs(x, BLANKS, 2, 7, 7);
    }

    /** The sides that meet at a point. */
    private static int[] meetingAt(NumberedLoops x, int point) {
        int[] those = new int[4];
        int n = 0;
        for (int i = 0; i < 4; i++) {
            if (x.sideOf(1, point, i) != NONE) {
                those[n] = x.sideOf(1, point, i);
                n++;
            }
        }
        return Arrays.copyOf(those, n);
    }

    /** All sides of a cell but one are lines, with blanks where two of them meet. At a corner rule 1 goes first. */
    private static void closesOverASide(int cell, int i) {
        NumberedLoops x = fourByFour();
        int first = cell / 4 * 5 + cell % 4;
        int[] corners = {first, first + 1, first + 5, first + 6};
        int open = x.sideOf(0, cell, i);
        for (int k = 0; k < 4; k++) {
            if (k != i) {
                lines(x, x.sideOf(0, cell, k));
            }
        }
        for (int point : corners) {
            int[] meeting = meetingAt(x, point);
            boolean atOpen = Arrays.stream(meeting).anyMatch(side -> side == open);
            if (atOpen && meeting.length == 2) {
                return;
            }
            for (int side : meeting) {
                if (!atOpen && x.side(side) == OPEN) {
                    blanks(x, side);
                }
            }
        }
        // A blank that ends at a corner of the grid tells the other side there.
        x.spreads();
        due("side(" + open + ")", x.side(open), OPEN);
        int elsewhere = cell / 4 < 2 ? 14 : 6;
        lines(x, elsewhere);
        hintIs(x, BLANKS, 2, open, open);
        x.marks(elsewhere, OPEN);
        x.numbers(cell / 4 < 2 ? 14 : 1, 1);
        hintIs(x, BLANKS, 2, open, open);
    }

    static void overEachSideOfEachCell() {
        for (int cell = 0; cell < 16; cell++) {
            for (int i = 0; i < 4; i++) {
                closesOverASide(cell, i);
            }
        }
    }

    static void theHighestSideThatCanBeToldIsLookedAt() {
        NumberedLoops x = fourByFour();
        lines(x, 15, 19, 39);
        blanks(x, 34);
        noHint(x);
        lines(x, 5);
        hintIs(x, BLANKS, 2, 38, 38);
    }

    public static void main(String[] args) {
        runAll(Promise13Rule2.class);
    }
}
