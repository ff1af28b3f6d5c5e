/** For each promise of the document: ordinary inputs, the edges that it names, wrong inputs. */
public final class PromiseTest {
    private static int wrong = 0;
    private static String promise = "";

    private static void due(String call, long got, long want) {
        if (got != want) {
            wrong++;
            System.out.println(promise + ": " + call + " answered " + got + ", due is " + want);
        }
    }

    private static NumberedLoops told(String text) {
        NumberedLoops x = new NumberedLoops();
        types(x, text);
        due("grid() of '" + text + "'", x.grid() > 0 ? 1 : 0, 1);
        return x;
    }

    private static void types(NumberedLoops x, String text) {
        x.clear();
        for (int i = 0; i < text.length(); i++) {
            due("type(" + (int) text.charAt(i) + ")", x.type(text.charAt(i)), i + 1);
        }
    }

    private static void gridOf(String text, long want) {
        NumberedLoops x = new NumberedLoops();
        types(x, text);
        due("grid() of '" + text + "'", x.grid(), want);
        due("count(6) behind it", x.count(6), want < 0 ? text.length() : 0);
    }

    private static long bits(int... those) {
        long all = 0;
        for (int one : those) {
            all |= 1L << one;
        }
        return all;
    }

    private static void hintIs(NumberedLoops x, int kind, int rule, int place, long sides) {
        due("hint(0)", x.hint(0), kind);
        due("hint(1)", x.hint(1), rule);
        due("hint(2)", x.hint(2), place);
        due("hint(3)", x.hint(3), kind == 1 || kind == 2 ? Long.bitCount(sides) : NumberedLoops.NONE);
        due("hinted()", x.hinted(), sides);
    }

    private static void noHint(NumberedLoops x) {
        hintIs(x, 0, NumberedLoops.NONE, NumberedLoops.NONE, 0);
    }

    private static void newObject() {
        promise = "1";
        NumberedLoops x = new NumberedLoops();
        int[] counts = {2, 2, 12, 0, 0, 0, 0, 0};
        for (int i = 0; i < counts.length; i++) {
            due("count(" + i + ")", x.count(i), counts[i]);
        }
        for (int cell = 0; cell < 4; cell++) {
            due("number(" + cell + ")", x.number(cell), NumberedLoops.NONE);
        }
        for (int side = 0; side < 12; side++) {
            due("side(" + side + ")", x.side(side), 0);
        }
        due("undo()", x.undo(), NumberedLoops.STATE);
        due("back(0)", x.back(0), NumberedLoops.STATE);
        due("back(1)", x.back(1), NumberedLoops.STATE);
    }

    private static void type() {
        promise = "2";
        NumberedLoops x = new NumberedLoops();
        due("type(-1)", x.type(-1), NumberedLoops.BAD);
        due("type(256)", x.type(256), NumberedLoops.BAD);
        due("type(MIN)", x.type(Integer.MIN_VALUE), NumberedLoops.BAD);
        due("type(0)", x.type(0), 1);
        due("type(255)", x.type(255), 2);
        for (int i = 3; i <= 40; i++) {
            due("type(46), the " + i + "th", x.type(46), i);
        }
        due("type(46), the 41st", x.type(46), NumberedLoops.FULL);
        due("type(256) when full", x.type(256), NumberedLoops.BAD);
        due("count(6)", x.count(6), 40);
    }

    private static void clear() {
        promise = "3";
        NumberedLoops x = new NumberedLoops();
        due("clear()", x.clear(), 0);
        types(x, "12;");
        due("clear()", x.clear(), 3);
        due("clear()", x.clear(), 0);
        due("grid()", x.grid(), -10);
    }

    private static void grid() {
        promise = "4";
        gridOf("1;", 1);
        gridOf("0123;4...;....;1234;", 4);
        gridOf("  . 0 ;  ", 1);
        gridOf("0 1 2 3 ; 4 . . . ; . . . . ; 1 2 3 4 ;", 4);
        gridOf("", -10);
        gridOf("   ", -13);
        gridOf(";", -10);
        gridOf("..", -12);
        gridOf("..  ", -14);
        gridOf("..;.", -14);
        gridOf(".....;", -14);
        gridOf("..;.;", -14);
        gridOf("..;;", -13);
        gridOf("..;...;", -15);
        gridOf(".;.;.;.;;", -18);
        gridOf(".;.;.;.; 1", -19);
        gridOf(".;.;.;.;x", -18);
        gridOf("5;", -10);
        gridOf("1/;", -11);
        gridOf("1;\t", -12);
        gridOf("1:", -11);
        gridOf("1" + (char) 0 + ";", -11);
        gridOf("1" + (char) 255 + ";", -11);
        gridReplacesAll();
    }

    private static void gridReplacesAll() {
        NumberedLoops x = told("12;34;");
        x.marks(0, 1);
        x.marks(1, 2);
        x.keep(0);
        x.keep(1);
        types(x, "3;;");
        due("grid()", x.grid(), -12);
        due("side(0)", x.side(0), 1);
        due("count(7)", x.count(7), 2);
        due("back(1)", x.back(1), 10);
        x.clear();
        types(x, ".2.;");
        due("many(100)", x.many(100), 0);
        due("grid()", x.grid(), 1);
        due("many(100)", x.many(100), 1);
        due("count(0)", x.count(0), 3);
        due("count(1)", x.count(1), 1);
        due("count(2)", x.count(2), 10);
        due("count(3)", x.count(3), 0);
        due("count(4)", x.count(4), 0);
        due("count(5)", x.count(5), 1);
        due("count(7)", x.count(7), 0);
        due("undo()", x.undo(), NumberedLoops.STATE);
        due("back(0)", x.back(0), NumberedLoops.STATE);
    }

    public static void main(String[] args) {
        newObject();
        type();
        clear();
        grid();
        System.out.println(wrong == 0 ? "all promises hold" : wrong + " answers are not as due");
        if (wrong != 0) {
            System.exit(1);
        }
    }
}
