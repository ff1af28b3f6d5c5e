/** Promise 7: sideOf, and how cells, sides and points are numbered. */
public final class Promise07SideOf extends Due {
    private static void sidesAre(NumberedLoops x, int of, int place, int... sides) {
        for (int i = 0; i < 4; i++) {
            due("sideOf(" + of + ", " + place + ", " + i + ")", x.sideOf(of, place, i), sides[i]);
        }
    }

    static void aCellHasSidesAboveBelowLeftRight() {
        NumberedLoops x = told("...;...;");
        sidesAre(x, 0, 0, 0, 3, 9, 10);
        sidesAre(x, 0, 2, 2, 5, 11, 12);
        sidesAre(x, 0, 4, 4, 7, 14, 15);
        sidesAre(x, 0, 5, 5, 8, 15, 16);
    }

    static void aPointHasSidesToTheLeftRightUpDown() {
        NumberedLoops x = told("...;...;");
        sidesAre(x, 1, 5, 3, 4, 10, 14);
        sidesAre(x, 1, 6, 4, 5, 11, 15);
    }

    static void aPointAtTheEdgeHasNoneBeyond() {
        NumberedLoops x = told("...;...;");
        sidesAre(x, 1, 0, NONE, 0, NONE, 9);
        sidesAre(x, 1, 1, 0, 1, NONE, 10);
        sidesAre(x, 1, 3, 2, NONE, NONE, 12);
        sidesAre(x, 1, 4, NONE, 3, 9, 13);
        sidesAre(x, 1, 7, 5, NONE, 12, 16);
        sidesAre(x, 1, 8, NONE, 6, 13, NONE);
        sidesAre(x, 1, 10, 7, 8, 15, NONE);
        sidesAre(x, 1, 11, 8, NONE, 16, NONE);
    }

    static void cellsOfEachGridHaveTheirSides() {
        for (int w = 1; w <= 4; w++) {
            for (int h = 1; h <= 4; h++) {
                NumberedLoops g = told(empty(w, h));
                for (int cell = 0; cell < w * h; cell++) {
                    int x = cell % w;
                    int y = cell / w;
                    sidesAre(g, 0, cell, lying(w, x, y), lying(w, x, y + 1), standing(w, h, x, y),
                        standing(w, h, x + 1, y));
                }
            }
        }
    }

    static void pointsOfEachGridHaveTheirSides() {
        for (int w = 1; w <= 4; w++) {
            for (int h = 1; h <= 4; h++) {
                NumberedLoops g = told(empty(w, h));
                for (int point = 0; point < (w + 1) * (h + 1); point++) {
                    int x = point % (w + 1);
                    int y = point / (w + 1);
                    sidesAre(g, 1, point, x > 0 ? lying(w, x - 1, y) : NONE, x < w ? lying(w, x, y) : NONE,
                        y > 0 ? standing(w, h, x, y - 1) : NONE, y < h ? standing(w, h, x, y) : NONE);
                }
            }
        }
    }

    static void theLastCellIsThereAndTheNextIsBad() {
        for (int w = 1; w <= 4; w++) {
            for (int h = 1; h <= 4; h++) {
                NumberedLoops x = told(empty(w, h));
                due("sideOf of the last", x.sideOf(0, w * h - 1, 3), lastSide(w, h));
                due("sideOf of one more", x.sideOf(0, w * h, 3), BAD);
            }
        }
    }

    static void theLastPointIsThereAndTheNextIsBad() {
        for (int w = 1; w <= 4; w++) {
            for (int h = 1; h <= 4; h++) {
                NumberedLoops x = told(empty(w, h));
                int points = (w + 1) * (h + 1);
                due("sideOf of the last", x.sideOf(1, points - 1, 2), lastSide(w, h));
                due("sideOf of one more", x.sideOf(1, points, 2), BAD);
                due("sideOf of one more", x.sideOf(1, points, 3), BAD);
            }
        }
    }

    private static void isBad(int of, int place, int i) {
        changesNothing("sideOf(" + of + ", " + place + ", " + i + ")", x -> x.sideOf(of, place, i), BAD);
    }

    static void belowZeroIsNoPlace() {
        isBad(0, -1, 0);
        isBad(0, -1, 3);
        isBad(1, -1, 0);
        isBad(1, -1, 3);
    }

    static void placesFarOffAreBad() {
        NumberedLoops x = told(empty(4, 4));
        for (int place : FAR_OFF) {
            due("sideOf(0, " + place + ", 0)", x.sideOf(0, place, 0), BAD);
            due("sideOf(1, " + place + ", 3)", x.sideOf(1, place, 3), BAD);
        }
    }

    static void ofIsNothingButZeroAndOne() {
        isBad(-1, 0, 0);
        isBad(2, 0, 0);
        isBad(Integer.MAX_VALUE, 0, 0);
        isBad(Integer.MIN_VALUE, 0, 0);
    }

    static void iIsZeroToThree() {
        isBad(0, 0, -1);
        isBad(0, 0, 4);
        isBad(1, 0, -1);
        isBad(1, 0, 4);
        isBad(0, 1, Integer.MIN_VALUE);
        isBad(1, 1, Integer.MAX_VALUE);
    }

    static void itIsBadWherePointsHaveNoneToo() {
        isBad(1, 9, 0);
        isBad(1, 0, 5);
        isBad(2, 0, 2);
    }

    static void itChangesNothing() {
        changesNothing("sideOf(0, 3, 1)", x -> x.sideOf(0, 3, 1), 5);
        changesNothing("sideOf(1, 0, 0)", x -> x.sideOf(1, 0, 0), NONE);
    }

    public static void main(String[] args) {
        runAll(Promise07SideOf.class);
    }
}
