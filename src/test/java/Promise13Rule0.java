import java.util.Arrays;

/** Promise 13, rule 0: cells with a number. */
public final class Promise13Rule0 extends Due {
    /** Each number at a cell with each way to mark its sides. */
    private static void eachWayRoundACell(int cell) {
        for (int n = 0; n <= 4; n++) {
            for (int ways = 0; ways < 81; ways++) {
                NumberedLoops x = fourByFour();
                x.numbers(cell, n);
                int[] count = new int[3];
                int[] open = new int[4];
                int left = ways;
                for (int i = 0; i < 4; i++) {
                    int side = x.sideOf(0, cell, i);
                    int as = left % 3;
                    left /= 3;
                    x.marks(side, as);
                    if (as == OPEN) {
                        open[count[OPEN]] = side;
                    }
                    count[as]++;
                }
                cellIsDue(x, cell, n, count[LINE], Arrays.copyOf(open, count[OPEN]));
            }
        }
    }

    private static void cellIsDue(NumberedLoops x, int cell, int n, int l, int[] open) {
        int o = open.length;
        if (l > n || l + o < n) {
            hintIs(x, CLASH, 0, cell);
        } else if (o > 0 && l == n) {
            hintIs(x, BLANKS, 0, cell, open);
        } else if (o > 0 && l + o == n) {
            hintIs(x, LINES, 0, cell, open);
        } else {
            due("rule 0 has nothing to say, hint(1)", x.hint(1) == 0 ? 1 : 0, 0);
        }
    }

    static void inEachWayAtTheFirstCell() {
        eachWayRoundACell(0);
    }

    static void inEachWayAtACellAmongOthers() {
        eachWayRoundACell(6);
    }

    static void inEachWayAtTheLastCell() {
        eachWayRoundACell(15);
    }

    static void moreLinesThanTheNumberClash() {
        NumberedLoops x = told("..;.1;");
        lines(x, 3);
        hintIs(x, BLANKS, 0, 3, 5, 10, 11);
        lines(x, 10);
        hintIs(x, CLASH, 0, 3);
    }

    static void fewerLinesAndOpenOnesThanTheNumberClash() {
        NumberedLoops x = told("..;.3;");
        blanks(x, 3);
        hintIs(x, LINES, 0, 3, 5, 10, 11);
        blanks(x, 11);
        hintIs(x, CLASH, 0, 3);
    }

    static void withoutOpenOnesAndAsManyLinesIsNeither() {
        NumberedLoops x = told("..;.2;");
        lines(x, 5, 11);
        blanks(x, 3, 10);
        due("hint(1)", x.hint(1), 1);
        x = told("0;");
        blanks(x, 0, 1, 2, 3);
        noHint(x);
        x = told("4;");
        lines(x, 0, 1, 2, 3);
        noHint(x);
    }

    static void aZeroClashesWithOneLine() {
        NumberedLoops x = told("0;");
        hintIs(x, BLANKS, 0, 0, 0, 1, 2, 3);
        lines(x, 3);
        hintIs(x, CLASH, 0, 0);
    }

    static void aFourClashesWithOneBlank() {
        NumberedLoops x = told("4;");
        hintIs(x, LINES, 0, 0, 0, 1, 2, 3);
        blanks(x, 0);
        hintIs(x, CLASH, 0, 0);
    }

    static void withoutANumberIsNeither() {
        NumberedLoops x = fourByFour();
        lines(x, 5, 9);
        noHint(x);
        x.numbers(5, 2);
        hintIs(x, BLANKS, 0, 5, 26, 27);
    }

    static void theFirstCellIsTold() {
        NumberedLoops x = told("..;04;");
        hintIs(x, BLANKS, 0, 2, 2, 4, 9, 10);
        x = told("..;40;");
        hintIs(x, LINES, 0, 2, 2, 4, 9, 10);
    }

    static void whatTellsGoesAheadOfALaterClash() {
        NumberedLoops x = told("0.;.0;");
        lines(x, 11);
        hintIs(x, BLANKS, 0, 0, 0, 2, 6, 7);
        x.marks(0, LINE);
        hintIs(x, CLASH, 0, 0);
    }

    public static void main(String[] args) {
        runAll(Promise13Rule0.class);
    }
}
