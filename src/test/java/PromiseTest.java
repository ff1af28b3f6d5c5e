/** For each promise of the document: ordinary inputs, the edges that it names, wrong inputs. */
public final class PromiseTest {
    private static int wrong = 0;
    private static String promise = "";

    private static void due(String call, long got, long want) {
        if (got != want) {
            wrong++;
            System.out.println(promise + ": " + call + " answered " + got + ", due is " + want);
        }
    }

    private static NumberedLoops told(String text) {
        NumberedLoops x = new NumberedLoops();
        types(x, text);
        due("grid() of '" + text + "'", x.grid() > 0 ? 1 : 0, 1);
        return x;
    }

    private static void types(NumberedLoops x, String text) {
        x.clear();
        for (int i = 0; i < text.length(); i++) {
            due("type(" + (int) text.charAt(i) + ")", x.type(text.charAt(i)), i + 1);
        }
    }

    private static void gridOf(String text, long want) {
        NumberedLoops x = new NumberedLoops();
        types(x, text);
        due("grid() of '" + text + "'", x.grid(), want);
        due("count(6) behind it", x.count(6), want < 0 ? text.length() : 0);
    }

    private static long bits(int... those) {
        long all = 0;
        for (int one : those) {
            all |= 1L << one;
        }
        return all;
    }

    private static void hintIs(NumberedLoops x, int kind, int rule, int place, long sides) {
        due("hint(0)", x.hint(0), kind);
        due("hint(1)", x.hint(1), rule);
        due("hint(2)", x.hint(2), place);
        due("hint(3)", x.hint(3), kind == 1 || kind == 2 ? Long.bitCount(sides) : NumberedLoops.NONE);
        due("hinted()", x.hinted(), sides);
    }

    private static void noHint(NumberedLoops x) {
        hintIs(x, 0, NumberedLoops.NONE, NumberedLoops.NONE, 0);
    }

    private static void newObject() {
        promise = "1";
        NumberedLoops x = new NumberedLoops();
        int[] counts = {2, 2, 12, 0, 0, 0, 0, 0};
        for (int i = 0; i < counts.length; i++) {
            due("count(" + i + ")", x.count(i), counts[i]);
        }
        for (int cell = 0; cell < 4; cell++) {
            due("number(" + cell + ")", x.number(cell), NumberedLoops.NONE);
        }
        for (int side = 0; side < 12; side++) {
            due("side(" + side + ")", x.side(side), 0);
        }
        due("undo()", x.undo(), NumberedLoops.STATE);
        due("back(0)", x.back(0), NumberedLoops.STATE);
        due("back(1)", x.back(1), NumberedLoops.STATE);
        due("many(99)", x.many(99), 13);
    }

    private static void type() {
        promise = "2";
        NumberedLoops x = new NumberedLoops();
        due("type(-1)", x.type(-1), NumberedLoops.BAD);
        due("type(256)", x.type(256), NumberedLoops.BAD);
        due("type(MIN)", x.type(Integer.MIN_VALUE), NumberedLoops.BAD);
        due("type(0)", x.type(0), 1);
        due("type(255)", x.type(255), 2);
        for (int i = 3; i <= 40; i++) {
            due("type(46), the " + i + "th", x.type(46), i);
        }
        due("type(46), the 41st", x.type(46), NumberedLoops.FULL);
        due("type(256) when full", x.type(256), NumberedLoops.BAD);
        due("count(6)", x.count(6), 40);
    }

    private static void clear() {
        promise = "3";
        NumberedLoops x = new NumberedLoops();
        due("clear()", x.clear(), 0);
        types(x, "12;");
        due("clear()", x.clear(), 3);
        due("clear()", x.clear(), 0);
        due("grid()", x.grid(), -10);
    }

    private static void grid() {
        promise = "4";
        gridOf("1;", 1);
        gridOf("0123;4...;....;1234;", 4);
        gridOf("  . 0 ;  ", 1);
        gridOf("0 1 2 3 ; 4 . . . ; . . . . ; 1 2 3 4 ;", 4);
        gridOf("", -10);
        gridOf("   ", -13);
        gridOf(";", -10);
        gridOf("..", -12);
        gridOf("..  ", -14);
        gridOf("..;.", -14);
        gridOf(".....;", -14);
        gridOf("..;.;", -14);
        gridOf("..;;", -13);
        gridOf("..;...;", -15);
        gridOf(".;.;.;.;;", -18);
        gridOf(".;.;.;.; 1", -19);
        gridOf(".;.;.;.;x", -18);
        gridOf("5;", -10);
        gridOf("1/;", -11);
        gridOf("1;\t", -12);
        gridOf("1:", -11);
        gridOf("1" + (char) 0 + ";", -11);
        gridOf("1" + (char) 255 + ";", -11);
        gridReplacesAll();
    }

    private static void gridReplacesAll() {
        NumberedLoops x = told("12;34;");
        x.marks(0, 1);
        x.marks(1, 2);
        x.keep(0);
        x.keep(1);
        types(x, "3;;");
        due("grid()", x.grid(), -12);
        due("side(0)", x.side(0), 1);
        due("count(7)", x.count(7), 2);
        due("back(1)", x.back(1), 10);
        x.clear();
        types(x, ".2.;");
        due("many(100)", x.many(100), 0);
        due("grid()", x.grid(), 1);
        due("many(100)", x.many(100), 1);
        due("count(0)", x.count(0), 3);
        due("count(1)", x.count(1), 1);
        due("count(2)", x.count(2), 10);
        due("count(3)", x.count(3), 0);
        due("count(4)", x.count(4), 0);
        due("count(5)", x.count(5), 1);
        due("count(7)", x.count(7), 0);
        due("undo()", x.undo(), NumberedLoops.STATE);
        due("back(0)", x.back(0), NumberedLoops.STATE);
    }

    private static void number() {
        promise = "5";
        NumberedLoops x = told("01;2.;43;");
        int[] due = {0, 1, 2, NumberedLoops.NONE, 4, 3};
        for (int cell = 0; cell < due.length; cell++) {
            due("number(" + cell + ")", x.number(cell), due[cell]);
        }
        for (int cell : new int[] {-1, 6, Integer.MIN_VALUE, Integer.MAX_VALUE}) {
            due("number(" + cell + ")", x.number(cell), NumberedLoops.BAD);
        }
    }

    private static void side() {
        promise = "6";
        NumberedLoops x = told("....;....;....;....;");
        x.marks(0, 1);
        x.marks(39, 2);
        due("side(0)", x.side(0), 1);
        due("side(1)", x.side(1), 0);
        due("side(39)", x.side(39), 2);
        for (int side : new int[] {-1, 40, 64, Integer.MIN_VALUE, Integer.MAX_VALUE}) {
            due("side(" + side + ")", x.side(side), NumberedLoops.BAD);
        }
    }

    private static void sideOf() {
        promise = "7";
        NumberedLoops x = told("...;...;");
        int none = NumberedLoops.NONE;
        sidesAre(x, 0, 0, 0, 3, 9, 10);
        sidesAre(x, 0, 2, 2, 5, 11, 12);
        sidesAre(x, 0, 4, 4, 7, 14, 15);
        sidesAre(x, 0, 5, 5, 8, 15, 16);
        sidesAre(x, 1, 0, none, 0, none, 9);
        sidesAre(x, 1, 3, 2, none, none, 12);
        sidesAre(x, 1, 4, none, 3, 9, 13);
        sidesAre(x, 1, 5, 3, 4, 10, 14);
        sidesAre(x, 1, 7, 5, none, 12, 16);
        sidesAre(x, 1, 8, none, 6, 13, none);
        sidesAre(x, 1, 11, 8, none, 16, none);
        int[][] wrong = {{-1, 0, 0}, {2, 0, 0}, {0, -1, 0}, {0, 6, 0}, {1, 12, 0}, {1, -1, 0}, {0, 0, -1}, {0, 0, 4},
            {1, 0, 4}, {1, 0, -1}, {0, Integer.MAX_VALUE, 0}, {1, Integer.MIN_VALUE, 0}};
        for (int[] w : wrong) {
            due("sideOf(" + w[0] + ", " + w[1] + ", " + w[2] + ")", x.sideOf(w[0], w[1], w[2]), NumberedLoops.BAD);
        }
    }

    private static void sidesAre(NumberedLoops x, int of, int place, int... sides) {
        for (int i = 0; i < 4; i++) {
            due("sideOf(" + of + ", " + place + ", " + i + ")", x.sideOf(of, place, i), sides[i]);
        }
    }

    private static void marks() {
        promise = "8";
        NumberedLoops x = new NumberedLoops();
        due("marks(0, 0)", x.marks(0, 0), NumberedLoops.STATE);
        due("marks(0, 1)", x.marks(0, 1), 0);
        due("marks(0, 1)", x.marks(0, 1), NumberedLoops.STATE);
        due("marks(0, 2)", x.marks(0, 2), 1);
        due("marks(0, 2)", x.marks(0, 2), NumberedLoops.STATE);
        due("marks(0, 0)", x.marks(0, 0), 2);
        due("marks(11, 2)", x.marks(11, 2), 0);
        due("count(7)", x.count(7), 4);
        int[][] wrong = {{-1, 1}, {12, 1}, {0, -1}, {0, 3}, {12, 3}, {64, 1}, {Integer.MIN_VALUE, 0}};
        for (int[] w : wrong) {
            due("marks(" + w[0] + ", " + w[1] + ")", x.marks(w[0], w[1]), NumberedLoops.BAD);
        }
        due("count(3)", x.count(3), 0);
        due("count(4)", x.count(4), 1);
        due("count(7)", x.count(7), 4);
    }

    private static void numbers() {
        promise = "9";
        NumberedLoops x = new NumberedLoops();
        due("numbers(0, -1)", x.numbers(0, -1), NumberedLoops.STATE);
        for (int n = 0; n <= 4; n++) {
            due("numbers(3, " + n + ")", x.numbers(3, n), 1);
            due("numbers(3, " + n + ")", x.numbers(3, n), NumberedLoops.STATE);
            due("number(3)", x.number(3), n);
        }
        due("count(5)", x.count(5), 1);
        due("numbers(3, -1)", x.numbers(3, -1), 1);
        due("number(3)", x.number(3), NumberedLoops.NONE);
        due("number(2)", x.number(2), NumberedLoops.NONE);
        int[][] wrong = {{-1, 1}, {4, 1}, {0, -2}, {0, 5}, {0, -9}, {16, 1}, {Integer.MAX_VALUE, 0}};
        for (int[] w : wrong) {
            due("numbers(" + w[0] + ", " + w[1] + ")", x.numbers(w[0], w[1]), NumberedLoops.BAD);
        }
        due("count(5)", x.count(5), 0);
        due("count(7)", x.count(7), 6);
    }

    private static void step() {
        promise = "10";
        NumberedLoops x = new NumberedLoops();
        due("step()", x.step(), NumberedLoops.STATE);
        x.marks(0, 1);
        due("step()", x.step(), 1);
        due("side(6)", x.side(6), 1);
        x.numbers(3, 0);
        due("step()", x.step(), 4);
        due("side(10)", x.side(10), 2);
        due("count(4)", x.count(4), 4);
        due("count(7)", x.count(7), 4);
        x.numbers(0, 1);
        due("step()", x.step(), NumberedLoops.CLASHES);
        due("count(7)", x.count(7), 5);
        due("undo()", x.undo(), 4);
        due("undo()", x.undo(), 3);
        due("count(4)", x.count(4), 0);
    }

    private static void spreads() {
        promise = "11";
        NumberedLoops x = new NumberedLoops();
        due("spreads()", x.spreads(), 0);
        due("count(7)", x.count(7), 1);
        x.numbers(0, 4);
        due("spreads()", x.spreads(), 12);
        due("count(3)", x.count(3), 4);
        due("count(4)", x.count(4), 8);
        due("hint(0)", x.hint(0), 0);
        due("undo()", x.undo(), 2);
        due("count(3)", x.count(3), 0);
        x.numbers(3, 4);
        due("spreads() into a clash", x.spreads(), 11);
        hintIs(x, 3, 1, 4, 0);
        due("spreads() in a clash", x.spreads(), 0);
        due("count(7)", x.count(7), 5);
        due("undo()", x.undo(), 4);
        due("count(3)", x.count(3), 8);
        due("undo()", x.undo(), 3);
        due("count(3)", x.count(3), 0);
    }

    private static void undo() {
        promise = "12";
        NumberedLoops x = new NumberedLoops();
        due("undo()", x.undo(), NumberedLoops.STATE);
        for (int side = 0; side < 12; side++) {
            x.marks(side, 1 + side % 2);
            due("count(7)", x.count(7), Math.min(side + 1, 10));
        }
        for (int more = 9; more >= 0; more--) {
            due("undo()", x.undo(), more);
            due("side undone", x.side(more + 2), 0);
            due("side before", x.side(more + 1), 1 + (more + 1) % 2);
        }
        due("undo()", x.undo(), NumberedLoops.STATE);
        due("side(0)", x.side(0), 1);
        due("side(1)", x.side(1), 2);
        x = new NumberedLoops();
        x.marks(0, 1);
        due("many(99)", x.many(99), 7);
        due("undo()", x.undo(), 0);
        due("many(99), a change taken back", x.many(99), 13);
        x.numbers(2, 3);
        x.numbers(2, 1);
        due("marks(0, 7)", x.marks(0, 7), NumberedLoops.BAD);
        due("marks(0, 0)", x.marks(0, 0), NumberedLoops.STATE);
        due("undo()", x.undo(), 1);
        due("number(2)", x.number(2), 3);
        due("undo()", x.undo(), 0);
        due("number(2)", x.number(2), NumberedLoops.NONE);
    }

    private static void hintOfCells() {
        promise = "13, 14, rule 0";
        NumberedLoops x = new NumberedLoops();
        noHint(x);
        x.numbers(3, 0);
        hintIs(x, 1, 0, 3, bits(3, 5, 10, 11));
        x.numbers(0, 4);
        hintIs(x, 2, 0, 0, bits(0, 2, 6, 7));
        x.numbers(0, 2);
        x.marks(0, 2);
        x.marks(6, 2);
        hintIs(x, 2, 0, 0, bits(2, 7));
        x.marks(2, 2);
        hintIs(x, 3, 0, 0, 0);
        x.marks(2, 1);
        x.marks(0, 1);
        hintIs(x, 1, 0, 0, bits(7));
        x.marks(7, 1);
        hintIs(x, 3, 0, 0, 0);
        for (int what : new int[] {-1, 4, Integer.MIN_VALUE}) {
            due("hint(" + what + ")", x.hint(what), NumberedLoops.BAD);
        }
    }

    private static void hintOfPoints() {
        promise = "13, 14, rule 1";
        NumberedLoops x = new NumberedLoops();
        x.marks(2, 1);
        noHint(x);
        x.marks(7, 1);
        hintIs(x, 1, 1, 4, bits(3, 10));
        x.marks(3, 1);
        hintIs(x, 3, 1, 4, 0);
        x = new NumberedLoops();
        x.marks(0, 1);
        hintIs(x, 2, 1, 0, bits(6));
        x.marks(6, 2);
        hintIs(x, 3, 1, 0, 0);
        x.marks(0, 0);
        hintIs(x, 1, 1, 0, bits(0));
    }

    private static void hintOfChains() {
        promise = "13, 14, rule 2";
        NumberedLoops x = told("...;");
        marksAll(x, 1, 0, 3, 6, 7);
        marksAll(x, 2, 1, 4);
        noHint(x);
        marksAll(x, 1, 2, 5, 8, 9);
        hintIs(x, 3, 2, 0, 0);
        // A closed chain clashes with a loose line, too.
        x = told("....;");
        marksAll(x, 1, 0, 4, 8, 9);
        marksAll(x, 2, 1, 5);
        noHint(x);
        x.marks(11, 1);
        hintIs(x, 3, 2, 0, 0);
        x = told("...;...;...;");
        marksAll(x, 1, 0, 3, 12);
        marksAll(x, 2, 16);
        noHint(x);
        x.marks(10, 1);
        hintIs(x, 1, 2, 13, bits(13));
        x = new NumberedLoops();
        marksAll(x, 1, 0, 2, 6);
        marksAll(x, 2, 4, 9);
        noHint(x);
        x.numbers(1, 1);
        noHint(x);
        x.numbers(1, 2);
        hintIs(x, 1, 2, 7, bits(7));
        x.numbers(1, -1);
        x.numbers(3, 1);
        hintIs(x, 1, 2, 7, bits(7));
    }

    private static void hintOfHands() {
        promise = "13, 14, rule 3";
        NumberedLoops x = told("...;...;...;");
        marksAll(x, 1, 1);
        marksAll(x, 2, 4, 7);
        hintIs(x, 2, 3, 10, bits(10));
        x.marks(7, 1);
        hintIs(x, 1, 3, 10, bits(10));
        x.marks(10, 1);
        hintIs(x, 3, 3, 1, 0);
        x.marks(10, 2);
        noHint(x);
        // Both ways reach side 1 by the ring of row 1, which does not fit together: that tells nothing there.
        x = told("....;....;....;....;");
        marksAll(x, 1, 25);
        marksAll(x, 2, 26, 27, 28, 29, 17, 13, 9, 5);
        hintIs(x, 3, 3, 9, 0);
    }

    private static void marksAll(NumberedLoops x, int as, int... sides) {
        for (int side : sides) {
            due("marks(" + side + ", " + as + ")", x.marks(side, as), 0);
        }
    }

    private static void many() {
        promise = "15";
        String[] texts = {".;", "..;", ".;.;", "....;", "...;...;", "...;...;...;", "....;....;....;....;"};
        int[] due = {1, 3, 3, 10, 40, 213, 9349};
        for (int i = 0; i < texts.length; i++) {
            NumberedLoops x = told(texts[i]);
            due("many(10000) of " + texts[i], x.many(10000), due[i]);
            due("many(1) of " + texts[i], x.many(1), 1);
            due("many(12) of " + texts[i], x.many(12), Math.min(12, due[i]));
        }
        NumberedLoops x = told("0;");
        due("many(10000)", x.many(10000), 0);
        for (int most : new int[] {0, -1, 10001, Integer.MIN_VALUE, Integer.MAX_VALUE}) {
            due("many(" + most + ")", x.many(most), NumberedLoops.BAD);
        }
        x = told("..;..;");
        x.marks(2, 1);
        due("many(99)", x.many(99), 6);
        x.marks(2, 2);
        due("many(99)", x.many(99), 7);
        due("count(7)", x.count(7), 2);
    }

    private static void loop() {
        promise = "16";
        NumberedLoops x = told("..;");
        due("loop(0)", x.loop(0), bits(0, 2, 4, 5));
        due("loop(1)", x.loop(1), bits(0, 1, 2, 3, 4, 6));
        due("loop(2)", x.loop(2), bits(1, 3, 5, 6));
        due("loop(3)", x.loop(3), NumberedLoops.NONE);
        due("loop(9999)", x.loop(9999), NumberedLoops.NONE);
        for (int k : new int[] {-1, 10000, Integer.MIN_VALUE}) {
            due("loop(" + k + ")", x.loop(k), NumberedLoops.BAD);
        }
        x = told("....;....;....;....;");
        for (int k = 1; k < 100; k++) {
            due("loop(" + k + ") is above the one before", x.loop(k * 93) > x.loop(k * 93 - 1) ? 1 : 0, 1);
        }
        due("the last side of loop(9348)", x.loop(9348) >> 39, 1);
        due("loop(9349)", x.loop(9349), NumberedLoops.NONE);
    }

    private static void forced() {
        promise = "17";
        NumberedLoops x = told(".3.;");
        due("forced(0)", x.forced(0), bits(1, 4));
        due("forced(1)", x.forced(1), 0);
        x.marks(7, 1);
        due("forced(0)", x.forced(0), bits(1, 4, 7, 5, 2, 9));
        due("forced(1)", x.forced(1), bits(0, 3, 6, 8));
        x.numbers(0, 4);
        due("forced(0)", x.forced(0), NumberedLoops.NONE);
        due("forced(1)", x.forced(1), NumberedLoops.NONE);
        due("forced(2)", x.forced(2), NumberedLoops.BAD);
        due("forced(-1)", x.forced(-1), NumberedLoops.BAD);
    }

    private static void inside() {
        promise = "18";
        NumberedLoops x = told("..;");
        due("inside(0)", x.inside(0), 1);
        due("inside(1)", x.inside(1), 3);
        due("inside(2)", x.inside(2), 2);
        due("inside(3)", x.inside(3), NumberedLoops.NONE);
        due("inside(9999)", x.inside(9999), NumberedLoops.NONE);
        due("inside(-1)", x.inside(-1), NumberedLoops.BAD);
        due("inside(10000)", x.inside(10000), NumberedLoops.BAD);
        x = told("....;.33.;....;....;");
        marksAll(x, 1, 0, 20);
        due("the cell in the corner is inside", x.inside(0) & 1, 1);
        x = told(".2.;.3.;3.3;");
        due("many(10)", x.many(10), 1);
        due("inside(0), open to the outside below", x.inside(0), 0b101101111);
    }

    private static void numbersThat() {
        promise = "19";
        NumberedLoops x = null;
        String[] texts = {".;", "..;", "4;", "4.;", "41;", "44;", "40;", "444;", "0;", "00;", "4.4;"};
        int[] needless = {0, 0, 1, 0, 3, 0, 0, 0, 0, 0, 0};
        int[] blame = {0, 0, 0, 0, 0, 3, 2, 0, 1, 0, 5};
        for (int i = 0; i < texts.length; i++) {
            x = told(texts[i]);
            int many = x.many(10000);
            due("numbersThat(0) of " + texts[i], x.numbersThat(0), needless[i]);
            due("numbersThat(1) of " + texts[i], x.numbersThat(1), blame[i]);
            due("numbersThat(2)", x.numbersThat(2), NumberedLoops.BAD);
            due("numbersThat(-1)", x.numbersThat(-1), NumberedLoops.BAD);
            due("many(10000) behind it", x.many(10000), many);
        }
        x.marks(0, 1);
        due("numbersThat(1), a line there", x.numbersThat(1), 4);
    }

    private static void tryNext() {
        promise = "20";
        NumberedLoops x = told("..;");
        due("tryNext()", x.tryNext(), 0);
        x.marks(0, 1);
        due("tryNext()", x.tryNext(), 1);
        x.marks(1, 1);
        due("tryNext()", x.tryNext(), NumberedLoops.NONE);
        x.numbers(0, 0);
        due("tryNext()", x.tryNext(), NumberedLoops.NONE);
        x = told(".;");
        due("tryNext() of one loop alone", x.tryNext(), NumberedLoops.NONE);
    }

    private static void images() {
        promise = "21, 22";
        NumberedLoops x = new NumberedLoops();
        due("back(0)", x.back(0), NumberedLoops.STATE);
        due("keep(0)", x.keep(0), 12);
        x.marks(0, 1);
        x.marks(1, 2);
        x.numbers(3, 1);
        due("count(7)", x.count(7), 3);
        due("keep(1)", x.keep(1), 10);
        due("count(7)", x.count(7), 3);
        due("many(99)", x.many(99), 1);
        x.type('1');
        due("back(0)", x.back(0), 12);
        due("many(99)", x.many(99), 13);
        due("count(7)", x.count(7), 0);
        due("count(6)", x.count(6), 1);
        due("undo()", x.undo(), NumberedLoops.STATE);
        due("number(3)", x.number(3), NumberedLoops.NONE);
        x.marks(5, 1);
        due("back(1)", x.back(1), 10);
        due("side(0)", x.side(0), 1);
        due("side(1)", x.side(1), 2);
        due("side(5)", x.side(5), 0);
        due("number(3)", x.number(3), 1);
        due("back(1)", x.back(1), 10);
        x.marks(5, 1);
        due("keep(1) anew", x.keep(1), 9);
        x.undo();
        due("back(1)", x.back(1), 9);
        for (int image : new int[] {-1, 2, Integer.MIN_VALUE}) {
            due("keep(" + image + ")", x.keep(image), NumberedLoops.BAD);
            due("back(" + image + ")", x.back(image), NumberedLoops.BAD);
        }
    }

    private static void count() {
        promise = "23";
        NumberedLoops x = told("1.2;..0;");
        marksAll(x, 1, 0, 1, 9);
        marksAll(x, 2, 16, 8);
        x.type(200);
        int[] due = {3, 2, 17, 3, 2, 3, 1, 5};
        for (int what = 0; what < due.length; what++) {
            due("count(" + what + ")", x.count(what), due[what]);
        }
        for (int what : new int[] {-1, 8, Integer.MIN_VALUE, Integer.MAX_VALUE}) {
            due("count(" + what + ")", x.count(what), NumberedLoops.BAD);
        }
    }

    private static void constants() {
        promise = "the face";
        due("BAD", NumberedLoops.BAD, -1);
        due("STATE", NumberedLoops.STATE, -2);
        due("FULL", NumberedLoops.FULL, -3);
        due("CLASHES", NumberedLoops.CLASHES, -4);
        due("NONE", NumberedLoops.NONE, -9);
    }

    public static void main(String[] args) {
        newObject();
        type();
        clear();
        grid();
        number();
        side();
        sideOf();
        marks();
        numbers();
        step();
        spreads();
        undo();
        hintOfCells();
        hintOfPoints();
        hintOfChains();
        hintOfHands();
        many();
        loop();
        forced();
        inside();
        numbersThat();
        tryNext();
        images();
        count();
        constants();
        System.out.println(wrong == 0 ? "all promises hold" : wrong + " answers are not as due");
        if (wrong != 0) {
            System.exit(1);
        }
    }
}
