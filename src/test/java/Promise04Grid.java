/** Promise 4: grid, and the text that it reads. */
public final class Promise04Grid extends Due {
    private static void items(String text, int rows, int width) {
        NumberedLoops x = typed(text);
        due("grid() of '" + text + "'", x.grid(), rows);
        due("count(0)", x.count(0), width);
        due("count(1)", x.count(1), rows);
        due("count(6)", x.count(6), 0);
    }

    private static void faultAt(String text, int place) {
        NumberedLoops x = typed(text);
        due("grid() of '" + text + "'", x.grid(), -10 - place);
        due("clear() behind it", x.clear(), text.length());
        due("the state behind it", seen(x), seen(new NumberedLoops()));
    }

    static void oneToFourSignsInOneToFourRows() {
        for (int w = 1; w <= 4; w++) {
            for (int h = 1; h <= 4; h++) {
                items(empty(w, h), h, w);
            }
        }
    }

    static void eachSignIsANumberOrNone() {
        NumberedLoops x = told("0123;4.01;");
        due("numbers", numbersSeen(x), " 0 1 2 3 4 -9 0 1");
        due("count(5)", x.count(5), 7);
    }

    static void rowsComeFromTheFirstOn() {
        NumberedLoops x = told("01;23;4.;.0;");
        due("numbers", numbersSeen(x), " 0 1 2 3 4 -9 -9 0");
    }

    static void eachOtherLetterIsAFault() {
        for (int letter = 0; letter <= 255; letter++) {
            boolean sign = letter >= '0' && letter <= '4' || letter == '.';
            String one = String.valueOf((char) letter);
            if (!sign && letter != ' ' && letter != ';') {
                faultAt(one, 0);
                faultAt("1" + one + ";", 1);
                faultAt("1;" + one, 2);
                faultAt("1; " + one + "1;", 3);
            } else if (sign) {
                items("1" + one + ";", 1, 2);
            }
        }
    }

    static void otherLettersThatLookLikeBlanksAreFaults() {
        for (int letter : new int[] {0, 9, 10, 13, 31, 33, 160}) {
            faultAt("1;" + (char) letter, 2);
        }
    }

    static void anotherLetterBehindTheFourthRowIsAFault() {
        faultAt(".;.;.;.;x", 8);
    }

    static void blanksStandBetweenTokens() {
        items("1 2 ; 3 4 ;", 2, 2);
        items("1  2;   34 ;", 2, 2);
        items("....; .... ;....;", 3, 4);
    }

    static void blanksStandAheadAndBehind() {
        items("  1;", 1, 1);
        items("1;  ", 1, 1);
        items(" 1234 ; ", 1, 4);
    }

    static void fortyLettersAreRead() {
        items("1".repeat(4) + ";" + "2222;3333;" + " ".repeat(20) + "4444;", 4, 4);
        items(" ".repeat(38) + ".;", 1, 1);
        items(".;" + " ".repeat(38), 1, 1);
        faultAt(" ".repeat(39) + ";", 39);
        faultAt(" ".repeat(39) + ".", 40);
        faultAt(".;" + " ".repeat(37) + "x", 39);
    }

    static void aFifthSignIsAFault() {
        faultAt(".....;", 4);
        faultAt("12341;", 4);
        faultAt(" 1 2 3 4 1;", 9);
        faultAt("....", 4);
        items("....;", 1, 4);
    }

    static void oneMoreThanInTheFirstRowIsAFault() {
        faultAt(".;..;", 3);
        faultAt("..;...;", 5);
        faultAt("...;....;", 7);
        faultAt("....;.....;", 9);
        faultAt("..;..;...;", 8);
        faultAt(".;.;.;..;", 7);
        faultAt("..; . . .;", 8);
        items("...;...;", 2, 3);
    }

    static void anEndWhereASignIsWantingIsAFault() {
        faultAt(";", 0);
        faultAt("  ;", 2);
        faultAt("..;;", 3);
        faultAt("..;.;", 4);
        faultAt("..; . ;", 6);
        faultAt("....;...;", 8);
        faultAt(".;.;.;;", 6);
        faultAt(";.;", 0);
    }

    static void aFifthRowsFirstIsAFault() {
        faultAt(".;.;.;.;.;", 8);
        faultAt(".;.;.;.; 0", 9);
        faultAt("....;....;....;....;....;", 20);
        faultAt("....;....;....;....;  1", 22);
        faultAt(".;.;.;.;;", 8);
        items(".;.;.;.;", 4, 1);
    }

    static void aTextThatEndsTooEarlyHasItsLengthAsFault() {
        faultAt(".", 1);
        faultAt("..", 2);
        faultAt("....", 4);
        faultAt("..;.", 4);
        faultAt("..;..", 5);
        faultAt(".;.;.;.", 7);
        faultAt(". ", 2);
        faultAt("..;.  ", 6);
        items("..;", 1, 2);
    }

    static void aTextWithoutItemsEndsTooEarly() {
        faultAt("", 0);
        faultAt(" ", 1);
        faultAt(" ".repeat(40), 40);
    }

    static void theFirstFaultIsTold() {
        faultAt("1x5;", 1);
        faultAt(".....;x", 4);
        faultAt("..;.;x", 4);
        faultAt("x", 0);
        faultAt("1;x;", 2);
        faultAt(";;", 0);
    }

    static void withAFaultNothingChanges() {
        String[] texts = {"", " ", "1", ";", "x", ".....;", "..;.;", ".;.;.;.;1"};
        int[] faults = {0, 1, 1, 0, 0, 4, 4, 8};
        for (int i = 0; i < texts.length; i++) {
            String text = texts[i];
            changesNothing("grid() of '" + text + "'", () -> busyWith(text), NumberedLoops::grid, -10 - faults[i]);
        }
    }

    private static NumberedLoops busyWith(String text) {
        NumberedLoops x = busy();
        x.clear();
        types(x, text);
        return x;
    }

    static void aTextWithAFaultCanGoOn() {
        NumberedLoops x = typed("12;3");
        due("grid()", x.grid(), -14);
        due("grid() again", x.grid(), -14);
        due("type(52)", x.type('4'), 5);
        due("type(59)", x.type(';'), 6);
        due("grid()", x.grid(), 2);
        due("numbers", numbersSeen(x), " 1 2 3 4");
    }

    static void theTextIsEmptyThen() {
        NumberedLoops x = told("12;");
        due("count(6)", x.count(6), 0);
        due("grid()", x.grid(), -10);
        due("the state", seen(x), seen(told("12;")));
        due("type(46)", x.type(46), 1);
    }

    static void allIsToldAnew() {
        for (String text : new String[] {"1;", "..;..;", "3.;.1;", "0123;4...;....;1234;"}) {
            NumberedLoops x = busyWith(text);
            x.grid();
            due("all there is", emptied(x), emptied(told(text)));
        }
    }

    static void allSidesAreOpenThen() {
        NumberedLoops x = busyWith("3.;.1;");
        x.grid();
        due("sides", sidesSeen(x), "000000000000");
        due("count(3)", x.count(3), 0);
        due("count(4)", x.count(4), 0);
    }

    static void nothingCanBeUndoneThen() {
        NumberedLoops x = busyWith("3.;.1;");
        x.grid();
        due("count(7)", x.count(7), 0);
        due("undo()", x.undo(), STATE);
    }

    static void imagesAreGoneThen() {
        NumberedLoops x = busyWith("3.;.1;");
        x.grid();
        due("back(0)", x.back(0), STATE);
        due("back(1)", x.back(1), STATE);
    }

    static void whatFollowsIsToldAnew() {
        NumberedLoops x = new NumberedLoops();
        due("many(10000)", x.many(10000), 13);
        types(x, "4.;");
        x.grid();
        due("many(10000)", x.many(10000), 1);
        hintIs(x, LINES, 0, 0, 0, 2, 4, 5);
        types(x, "...;");
        x.grid();
        due("many(10000)", x.many(10000), 6);
        noHint(x);
    }

    static void aSmallerGridHasNoMoreThanItsOwn() {
        NumberedLoops x = told(empty(4, 4));
        types(x, ".;");
        due("grid()", x.grid(), 1);
        due("number(0)", x.number(0), NONE);
        due("number(1)", x.number(1), BAD);
        due("side(3)", x.side(3), OPEN);
        due("side(4)", x.side(4), BAD);
        due("sideOf(1, 3, 0)", x.sideOf(1, 3, 0), 1);
        due("sideOf(1, 3, 1)", x.sideOf(1, 3, 1), NONE);
        due("sideOf(1, 4, 0)", x.sideOf(1, 4, 0), BAD);
        due("loop(0)", x.loop(0), 15);
        due("many(10000)", x.many(10000), 1);
    }

    public static void main(String[] args) {
        runAll(Promise04Grid.class);
    }
}
