import java.util.Arrays;

/** Promise 13, rule 3: what lies on the two hands of a side. */
public final class Promise13Rule3 extends Due {
    /** Sides that lead from what is beyond to what is beyond, all but one marked: what is told of that one. */
    private static void eachWayAcross(int w, int h, int... across) {
        for (int open = 0; open < across.length; open++) {
            for (int ways = 0; ways < 1 << across.length; ways++) {
                NumberedLoops x = told(empty(w, h));
                int lines = marks(x, across, ways & ~(1 << open), 1 << open);
                if ((ways >> open & 1) == 0 && !rule1Tells(x)) {
                    hintIs(x, lines % 2 == 1 ? LINES : BLANKS, 3, across[open], across[open]);
                }
            }
        }
    }

    /** All of them marked: odd lines clash at the lowest, even ones don't. */
    private static void eachWayAllAcross(int w, int h, int... across) {
        for (int ways = 0; ways < 1 << across.length; ways++) {
            NumberedLoops x = told(empty(w, h));
            int lines = marks(x, across, ways, 0);
            if (lines % 2 == 1 && !rule1Tells(x)) {
                hintIs(x, CLASH, 3, Arrays.stream(across).min().getAsInt());
            } else if (!rule1Tells(x)) {
                noHint(x);
            }
        }
    }

    /** Those of the sides whose bit is set become lines, the others blank, but for those that stay open. */
    private static int marks(NumberedLoops x, int[] sides, int lines, int open) {
        for (int i = 0; i < sides.length; i++) {
            if ((open >> i & 1) == 0) {
                x.marks(sides[i], (lines >> i & 1) == 1 ? LINE : BLANK);
            }
        }
        return Integer.bitCount(lines);
    }

    /** Two lines that meet at a point have rule 1 go first. */
    private static boolean rule1Tells(NumberedLoops x) {
        return x.hint(1) == 1;
    }

    /** Of each column and each row but the outermost: at corners rule 1 goes first. */
    private static void eachColumnAndRow(boolean all) {
        for (int w = 1; w <= 4; w++) {
            for (int h = 1; h <= 4; h++) {
                for (int x = 1; x < w - 1; x++) {
                    int[] column = new int[h + 1];
                    for (int y = 0; y <= h; y++) {
                        column[y] = lying(w, x, y);
                    }
                    across(all, w, h, column);
                }
                for (int y = 1; y < h - 1; y++) {
                    int[] row = new int[w + 1];
                    for (int x = 0; x <= w; x++) {
                        row[x] = standing(w, h, x, y);
                    }
                    across(all, w, h, row);
                }
            }
        }
    }

    private static void across(boolean all, int w, int h, int[] sides) {
        if (all) {
            eachWayAllAcross(w, h, sides);
        } else {
            eachWayAcross(w, h, sides);
        }
    }

    static void anOpenSideIsToldByWhatIsBeyond() {
        eachColumnAndRow(false);
    }

    static void aLineOrABlankClashesByWhatIsBeyond() {
        eachColumnAndRow(true);
    }

    static void aWayMayTurn() {
        eachWayAcross(4, 4, 1, 5, 25, 26);
        eachWayAcross(4, 4, 2, 6, 28, 29);
        eachWayAcross(4, 4, 13, 17, 30, 31);
        eachWayAcross(4, 4, 14, 18, 33, 34);
        eachWayAllAcross(4, 4, 1, 5, 25, 26);
        eachWayAllAcross(4, 4, 2, 6, 28, 29);
        eachWayAllAcross(4, 4, 13, 17, 30, 31);
        eachWayAllAcross(4, 4, 14, 18, 33, 34);
    }

    static void theFirstSideIsLookedAt() {
        NumberedLoops x = fourByFour();
        blanks(x, 21, 22, 6, 10, 32, 31, 30);
        hintIs(x, BLANKS, 3, 0, 0);
        x.marks(30, LINE);
        hintIs(x, LINES, 3, 0, 0);
    }

    static void aCellOfOneRowHasWhatIsBeyondOnBothHands() {
        NumberedLoops x = told(empty(4, 1));
        lines(x, 1);
        hintIs(x, LINES, 3, 5, 5);
        lines(x, 5);
        noHint(x);
        x.marks(1, BLANK);
        hintIs(x, CLASH, 3, 1);
        x.marks(5, OPEN);
        hintIs(x, BLANKS, 3, 5, 5);
    }

    static void aLineTellsNothingOfItself() {
        NumberedLoops x = fourByFour();
        lines(x, 5);
        noHint(x);
        x.marks(5, BLANK);
        noHint(x);
    }

    static void withoutAWayNothingIsTold() {
        NumberedLoops x = fourByFour();
        lines(x, 1);
        blanks(x, 5, 13);
        noHint(x);
    }

    /** What leads round a cell that has eight round it: by those eight, one to the next. */
    private static int[] round(int x, int y) {
        int[] round = {lying(4, x - 1, y), lying(4, x + 1, y), lying(4, x - 1, y + 1), lying(4, x + 1, y + 1),
            standing(4, 4, x, y - 1), standing(4, 4, x + 1, y - 1), standing(4, 4, x, y + 1),
            standing(4, 4, x + 1, y + 1)};
        Arrays.sort(round);
        return round;
    }

    private static NumberedLoops ring(int[] round, int open, int line) {
        NumberedLoops x = fourByFour();
        for (int side : round) {
            if (side != open) {
                x.marks(side, side == line ? LINE : BLANK);
            }
        }
        return x;
    }

    static void aWayMayGoByCellsAlone() {
        for (int center = 0; center < 4; center++) {
            int[] round = round(1 + center % 2, 1 + center / 2);
            for (int open : round) {
                hintIs(ring(round, open, NONE), BLANKS, 3, open, open);
                for (int line : round) {
                    if (line != open) {
                        hintIs(ring(round, open, line), LINES, 3, open, open);
                    }
                }
            }
        }
    }

    static void aRingOfCellsWithOneLineClashesAtItsFirstSide() {
        for (int center = 0; center < 4; center++) {
            int[] round = round(1 + center % 2, 1 + center / 2);
            noHint(ring(round, NONE, NONE));
            for (int line : round) {
                hintIs(ring(round, NONE, line), CLASH, 3, round[0]);
            }
        }
    }

    /** Beyond, 4, 5, 1 and beyond again; cell 5 is one of those round cell 10, too. */
    private static NumberedLoops ringWithAWay(int line) {
        NumberedLoops x = ring(round(2, 2), NONE, line);
        blanks(x, 25, 26, 5);
        return x;
    }

    static void byCellsMoreThanOnceAnOpenSideHasBothWays() {
        hintIs(ringWithAWay(NONE), BLANKS, 3, 1, 1);
        hintIs(ringWithAWay(38), CLASH, 3, 9);
    }

    static void byCellsMoreThanOnceABlankClashes() {
        NumberedLoops x = ringWithAWay(NONE);
        blanks(x, 1);
        hintIs(x, BLANKS, 3, 17, 17);
        x.marks(38, LINE);
        hintIs(x, CLASH, 3, 1);
    }

    static void byCellsMoreThanOnceALineClashes() {
        NumberedLoops x = ringWithAWay(NONE);
        x.marks(25, LINE);
        hintIs(x, LINES, 3, 1, 1);
        lines(x, 1);
        hintIs(x, LINES, 3, 17, 17);
        x.marks(38, LINE);
        hintIs(x, CLASH, 3, 1);
    }

    static void byWhatIsBeyondMoreThanOnceThereAreBothWays() {
        NumberedLoops x = fourByFour();
        lines(x, 25);
        blanks(x, 26, 5);
        hintIs(x, LINES, 3, 1, 1);
        // Beyond, 2, 6, 7 and beyond: that does not fit together, so that all that is reached by beyond has both ways.
        lines(x, 2);
        blanks(x, 6, 28, 29);
        hintIs(x, CLASH, 3, 2);
        x.marks(2, BLANK);
        hintIs(x, LINES, 3, 1, 1);
    }

    static void theFirstSideIsTold() {
        NumberedLoops x = fourByFour();
        blanks(x, 1, 5, 9, 13);
        hintIs(x, BLANKS, 3, 17, 17);
        blanks(x, 31, 32, 33, 34);
        hintIs(x, BLANKS, 3, 17, 17);
    }

    public static void main(String[] args) {
        runAll(Promise13Rule3.class);
    }
}
