import java.util.Arrays;

/** Promise 13, rule 1: points. */
public final class Promise13Rule1 extends Due {
    /** Each way to mark the sides of a point whose neighbours have nothing to say of it. */
    private static void eachWayAtAPoint(int point) {
        for (int ways = 0; ways < 81; ways++) {
            NumberedLoops x = fourByFour();
            int l = 0;
            int o = 0;
            int[] open = new int[4];
            int left = ways;
            for (int i = 0; i < 4; i++) {
                int side = x.sideOf(1, point, i);
                int as = left % 3;
                left /= 3;
                if (side != NONE) {
                    x.marks(side, as);
                    l += as == LINE ? 1 : 0;
                    if (as == OPEN) {
                        open[o] = side;
                        o++;
                    }
                }
            }
            pointIsDue(x, point, l, Arrays.copyOf(open, o));
        }
    }

    private static void pointIsDue(NumberedLoops x, int point, int l, int[] open) {
        int o = open.length;
        if (l > 2 || l == 1 && o == 0) {
            hintIs(x, CLASH, 1, point);
        } else if (l == 2 && o > 0 || l == 0 && o == 1) {
            hintIs(x, BLANKS, 1, point, open);
        } else if (l == 1 && o == 1) {
            hintIs(x, LINES, 1, point, open);
        } else {
            due("rule 1 has nothing to say of it, hint(1)", x.hint(1) == 1 && x.hint(2) == point ? 1 : 0, 0);
        }
    }

    static void inEachWayAtACorner() {
        eachWayAtAPoint(0);
    }

    static void inEachWayAtTheLastCorner() {
        eachWayAtAPoint(24);
    }

    static void inEachWayAtAnEdge() {
        eachWayAtAPoint(2);
        eachWayAtAPoint(10);
    }

    static void inEachWayAtAPointWithFourSides() {
        eachWayAtAPoint(12);
    }

    static void threeLinesClash() {
        NumberedLoops x = new NumberedLoops();
        lines(x, 2, 3);
        hintIs(x, BLANKS, 1, 4, 7, 10);
        lines(x, 7);
        hintIs(x, CLASH, 1, 4);
    }

    static void aLineWithNothingOpenClashes() {
        NumberedLoops x = new NumberedLoops();
        lines(x, 0);
        hintIs(x, LINES, 1, 0, 6);
        blanks(x, 6);
        hintIs(x, CLASH, 1, 0);
    }

    static void theLastOpenOneIsBlank() {
        NumberedLoops x = new NumberedLoops();
        blanks(x, 2, 3);
        noHint(x);
        blanks(x, 7);
        hintIs(x, BLANKS, 1, 4, 10);
        blanks(x, 10);
        noHint(x);
    }

    static void aLineWithTwoOpenOnesIsNeither() {
        NumberedLoops x = new NumberedLoops();
        lines(x, 7);
        noHint(x);
        blanks(x, 2);
        noHint(x);
        blanks(x, 3);
        hintIs(x, LINES, 1, 4, 10);
    }

    static void theFirstPointIsTold() {
        NumberedLoops x = new NumberedLoops();
        blanks(x, 11, 0);
        hintIs(x, BLANKS, 1, 0, 6);
        x.marks(6, BLANK);
        hintIs(x, BLANKS, 1, 8, 5);
    }

    static void whatTellsGoesAheadOfALaterClash() {
        NumberedLoops x = new NumberedLoops();
        lines(x, 5, 1);
        blanks(x, 11);
        hintIs(x, LINES, 1, 2, 8);
        x.marks(1, OPEN);
        hintIs(x, CLASH, 1, 8);
    }

    public static void main(String[] args) {
        runAll(Promise13Rule1.class);
    }
}
