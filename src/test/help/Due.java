import java.lang.reflect.InvocationTargetException;
import java.lang.reflect.Method;
import java.lang.reflect.Modifier;
import java.util.Arrays;
import java.util.Comparator;
import java.util.function.Supplier;
import java.util.function.ToLongFunction;

/**
 * What the tests of the promises share. A test is a static method without parameters of a class that extends this
 * one; it says by its name which sentence of the document it is about. No object is asked more than 512 times.
 */
abstract class Due {
    static final int BAD = -1, STATE = -2, FULL = -3, CLASHES = -4, NONE = -9;
    static final int OPEN = 0, LINE = 1, BLANK = 2;
    static final int NOTHING = 0, BLANKS = 1, LINES = 2, CLASH = 3;
    /** Numbers that no call takes for a cell, a side, a row of choices. */
    static final int[] FAR_OFF = {-9, 41, 64, 65, 255, 256, 1 << 16, 1 << 30, Integer.MAX_VALUE, Integer.MIN_VALUE};
    private static int wrong = 0;
    private static String test = "";

    static void runAll(Class<?> tests) {
        Method[] methods = tests.getDeclaredMethods();
        Arrays.sort(methods, Comparator.comparing(Method::getName));
        int ran = 0;
        for (Method m : methods) {
            boolean isTest = Modifier.isStatic(m.getModifiers()) && m.getParameterCount() == 0
                && m.getReturnType() == void.class;
            if (isTest && !m.isSynthetic()) {
                test = tests.getSimpleName() + ", " + m.getName();
                run(m);
                ran++;
            }
        }
        System.out.println(tests.getSimpleName() + ": " + ran + " tests, "
            + (wrong == 0 ? "all answers as due" : wrong + " answers not as due"));
        if (wrong != 0 || ran == 0) {
            System.exit(1);
        }
    }

    private static void run(Method m) {
        try {
            m.setAccessible(true);
            m.invoke(null);
        } catch (InvocationTargetException e) {
            wrong++;
            System.out.println(test + ": threw " + e.getCause());
        } catch (IllegalAccessException e) {
            throw new IllegalStateException(e);
        }
    }

    static void due(String call, long got, long want) {
        if (got != want) {
            wrong++;
            System.out.println(test + ": " + call + " answered " + got + ", due is " + want);
        }
    }

    static void due(String what, String got, String want) {
        if (!got.equals(want)) {
            wrong++;
            System.out.println(test + ": " + what + " is " + got + ", due is " + want);
        }
    }

    // ---- objects to ask

    static void types(NumberedLoops x, String text) {
        for (int i = 0; i < text.length(); i++) {
            x.type(text.charAt(i));
        }
    }

    static NumberedLoops typed(String text) {
        NumberedLoops x = new NumberedLoops();
        types(x, text);
        return x;
    }

    static NumberedLoops told(String text) {
        NumberedLoops x = typed(text);
        due("grid() of '" + text + "' went well", x.grid() > 0 ? 1 : 0, 1);
        return x;
    }

    /** The text of a grid without numbers. */
    static String empty(int width, int height) {
        return (".".repeat(width) + ";").repeat(height);
    }

    static NumberedLoops fourByFour() {
        return told(empty(4, 4));
    }

    static void lines(NumberedLoops x, int... sides) {
        marksAll(x, LINE, sides);
    }

    static void blanks(NumberedLoops x, int... sides) {
        marksAll(x, BLANK, sides);
    }

    private static void marksAll(NumberedLoops x, int as, int... sides) {
        for (int side : sides) {
            due("marks(" + side + ", " + as + ")", x.marks(side, as), OPEN);
        }
    }

    /** Two by two cells with something in all there is: numbers, sides, three to be undone, two images, a text. */
    static NumberedLoops busy() {
        NumberedLoops x = told("3.;.1;");
        blanks(x, 11);
        x.keep(1);
        lines(x, 0);
        x.numbers(1, 2);
        x.keep(0);
        x.back(1);
        x.numbers(2, 0);
        x.step();
        x.marks(5, BLANK);
        types(x, "4; .;x");
        return x;
    }

    // ---- what can be seen

    static int lastSide(int width, int height) {
        return width * (height + 1) + (width + 1) * height - 1;
    }

    static int lying(int width, int x, int y) {
        return y * width + x;
    }

    static int standing(int width, int height, int x, int y) {
        return width * (height + 1) + y * (width + 1) + x;
    }

    static long bits(int... those) {
        long all = 0;
        for (int one : those) {
            all |= 1L << one;
        }
        return all;
    }

    /** All that calls tell of the state. */
    static String seen(NumberedLoops x) {
        StringBuilder s = new StringBuilder();
        for (int what = 0; what < 8; what++) {
            s.append(x.count(what)).append(' ');
        }
        return s.append("numbers").append(numbersSeen(x)).append(" sides ").append(sidesSeen(x)).toString();
    }

    static String numbersSeen(NumberedLoops x) {
        StringBuilder s = new StringBuilder();
        int cells = x.count(0) * x.count(1);
        for (int cell = 0; cell < cells; cell++) {
            s.append(' ').append(x.number(cell));
        }
        return s.toString();
    }

    static String sidesSeen(NumberedLoops x) {
        StringBuilder s = new StringBuilder();
        int sides = x.count(2);
        for (int side = 0; side < sides; side++) {
            s.append(x.side(side));
        }
        return s.toString();
    }

    /** The state, all that can be undone, both images, the text: nothing is left of the object then. */
    static String emptied(NumberedLoops x) {
        StringBuilder s = new StringBuilder(seen(x));
        for (int i = 0; i < 11; i++) {
            int more = x.undo();
            s.append("\n undo ").append(more);
            if (more == STATE) {
                break;
            }
            s.append(numbersSeen(x)).append(' ').append(sidesSeen(x));
        }
        for (int image = 0; image < 2; image++) {
            s.append("\n back ").append(x.back(image)).append(numbersSeen(x)).append(' ').append(sidesSeen(x));
        }
        return s.append("\n grid ").append(x.grid()).append(' ').append(seen(x)).toString();
    }

    /** A call with its answer, and that all is behind it as if it had not been. */
    static void changesNothing(String call, Supplier<NumberedLoops> made, ToLongFunction<NumberedLoops> asked, long want) {
        NumberedLoops x = made.get();
        due(call, asked.applyAsLong(x), want);
        due("all there is behind " + call, emptied(x), emptied(made.get()));
    }

    static void changesNothing(String call, ToLongFunction<NumberedLoops> asked, long want) {
        changesNothing(call, Due::busy, asked, want);
    }

    static void hintIs(NumberedLoops x, int kind, int rule, int place, int... sides) {
        String want = kind + " rule " + rule + " place " + place + " how many "
            + (kind == BLANKS || kind == LINES ? sides.length : NONE) + " sides " + bits(sides);
        due("the hint", hintOf(x), want);
    }

    static void noHint(NumberedLoops x) {
        hintIs(x, NOTHING, NONE, NONE);
    }

    static String hintOf(NumberedLoops x) {
        return x.hint(0) + " rule " + x.hint(1) + " place " + x.hint(2) + " how many " + x.hint(3)
            + " sides " + x.hinted();
    }
}
