/** Promise 13, rule 3: what lies on the two hands of a side. */
public final class Promise13Rule3 extends Due {
    private static final int[] COLUMN = {1, 5, 9, 13, 17};
    private static final int[] ROW = {30, 31, 32, 33, 34};

    /** From what is beyond to what is beyond, by four sides of five: what is told of the fifth. */
    private static void eachWayAcross(int[] across) {
        for (int open = 0; open < 5; open++) {
            for (int ways = 0; ways < 16; ways++) {
                NumberedLoops x = fourByFour();
                int left = ways;
                for (int i = 0; i < 5; i++) {
                    if (i != open) {
                        x.marks(across[i], left % 2 == 0 ? LINE : BLANK);
                        left /= 2;
                    }
                }
                int lines = 4 - Integer.bitCount(ways);
                hintIs(x, lines % 2 == 1 ? LINES : BLANKS, 3, across[open], across[open]);
            }
        }
    }

    /** By five sides of five: odd lines clash at the first of them. */
    private static void eachWayAllAcross(int[] across) {
        for (int ways = 0; ways < 32; ways++) {
            NumberedLoops x = fourByFour();
            for (int i = 0; i < 5; i++) {
                x.marks(across[i], (ways >> i & 1) == 1 ? LINE : BLANK);
            }
            if (Integer.bitCount(ways) % 2 == 1) {
                hintIs(x, CLASH, 3, across[0]);
            } else {
                noHint(x);
            }
        }
    }

    static void anOpenSideIsToldByWhatIsBeyond() {
        eachWayAcross(COLUMN);
        eachWayAcross(ROW);
    }

    static void aLineOrABlankClashesByWhatIsBeyond() {
        eachWayAllAcross(COLUMN);
        eachWayAllAcross(ROW);
    }

    static void aCellOfOneRowHasWhatIsBeyondOnBothHands() {
        NumberedLoops x = told(empty(4, 1));
        lines(x, 1);
        hintIs(x, LINES, 3, 5, 5);
        lines(x, 5);
        noHint(x);
        x.marks(1, BLANK);
        hintIs(x, CLASH, 3, 1);
        x.marks(5, OPEN);
        hintIs(x, BLANKS, 3, 5, 5);
    }

    static void aLineTellsNothingOfItself() {
        NumberedLoops x = fourByFour();
        lines(x, 5);
        noHint(x);
        x.marks(5, BLANK);
        noHint(x);
    }

    static void withoutAWayNothingIsTold() {
        NumberedLoops x = fourByFour();
        lines(x, 1);
        blanks(x, 5, 13);
        noHint(x);
    }

    /** A ring of cells round cell 10: from 5 over 6, 7, 11, 15, 14, 13, 9 to 5. */
    private static final int[] ROUND = {9, 11, 13, 15, 27, 28, 37, 38};

    private static NumberedLoops ring(int open, int line) {
        NumberedLoops x = fourByFour();
        for (int side : ROUND) {
            if (side != open) {
                x.marks(side, side == line ? LINE : BLANK);
            }
        }
        return x;
    }

    static void aWayMayGoByCellsAlone() {
        for (int open : ROUND) {
            hintIs(ring(open, NONE), BLANKS, 3, open, open);
            for (int line : ROUND) {
                if (line != open) {
                    hintIs(ring(open, line), LINES, 3, open, open);
                }
            }
        }
    }

    static void aRingOfCellsWithOneLineClashesAtItsFirstSide() {
        noHint(ring(NONE, NONE));
        for (int line : ROUND) {
            hintIs(ring(NONE, line), CLASH, 3, 9);
        }
    }

    /** Beyond, 4, 5, 1 and beyond again; cell 5 is one of the ring's, too. */
    private static NumberedLoops ringWithAWay(int line) {
        NumberedLoops x = ring(NONE, line);
        blanks(x, 25, 26, 5);
        return x;
    }

    static void byCellsMoreThanOnceAnOpenSideHasBothWays() {
        hintIs(ringWithAWay(NONE), BLANKS, 3, 1, 1);
        hintIs(ringWithAWay(38), CLASH, 3, 9);
    }

    static void byCellsMoreThanOnceABlankClashes() {
        NumberedLoops x = ringWithAWay(NONE);
        blanks(x, 1);
        hintIs(x, BLANKS, 3, 17, 17);
        x.marks(38, LINE);
        hintIs(x, CLASH, 3, 1);
    }

    static void byCellsMoreThanOnceALineClashes() {
        NumberedLoops x = ringWithAWay(NONE);
        x.marks(25, LINE);
        hintIs(x, LINES, 3, 1, 1);
        lines(x, 1);
        hintIs(x, LINES, 3, 17, 17);
        x.marks(38, LINE);
        hintIs(x, CLASH, 3, 1);
    }

    static void byWhatIsBeyondMoreThanOnceThereAreBothWays() {
        NumberedLoops x = fourByFour();
        lines(x, 25);
        blanks(x, 26, 5);
        hintIs(x, LINES, 3, 1, 1);
        // Beyond, 2, 6, 7 and beyond: that does not fit together, so that all that is reached by beyond has both ways.
        lines(x, 2);
        blanks(x, 6, 28, 29);
        hintIs(x, CLASH, 3, 2);
        x.marks(2, BLANK);
        hintIs(x, LINES, 3, 1, 1);
    }

    static void theFirstSideIsTold() {
        NumberedLoops x = fourByFour();
        blanks(x, 1, 5, 9, 13);
        hintIs(x, BLANKS, 3, 17, 17);
        blanks(x, 31, 32, 33, 34);
        hintIs(x, BLANKS, 3, 17, 17);
    }

    public static void main(String[] args) {
        runAll(Promise13Rule3.class);
    }
}
