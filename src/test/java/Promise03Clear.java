/** Promise 3: clear. */
public final class Promise03Clear extends Due {
    static void anEmptyTextHadNoLetters() {
        NumberedLoops x = new NumberedLoops();
        due("clear()", x.clear(), 0);
        due("clear()", x.clear(), 0);
        changesNothing("clear() of an empty text", () -> told("3.;"), NumberedLoops::clear, 0);
    }

    static void itAnswersHowManyThereWere() {
        for (int n = 1; n <= 40; n++) {
            NumberedLoops x = typed(" ".repeat(n));
            due("clear() of " + n, x.clear(), n);
            due("count(6)", x.count(6), 0);
            due("clear()", x.clear(), 0);
        }
    }

    static void blanksAndWrongLettersCountToo() {
        due("clear()", typed(" x" + (char) 0 + (char) 255 + "; ").clear(), 6);
    }

    static void lettersThatWereRefusedDoNotCount() {
        NumberedLoops x = typed("..");
        x.type(-1);
        x.type(256);
        due("clear()", x.clear(), 2);
        x = typed(".".repeat(45));
        due("clear() of a full text", x.clear(), 40);
    }

    static void nothingIsLeftOfTheText() {
        NumberedLoops x = typed("12;");
        x.clear();
        due("grid()", x.grid(), -10);
        types(x, "3;");
        due("grid() of what came behind it", x.grid(), 1);
        due("count(0)", x.count(0), 1);
        due("number(0)", x.number(0), 3);
    }

    static void behindGridThereIsNothingToClear() {
        due("clear()", told("12;").clear(), 0);
        NumberedLoops x = typed("12");
        due("grid()", x.grid(), -12);
        due("clear() of a text that has a fault", x.clear(), 2);
    }

    static void nothingButTheTextChanges() {
        NumberedLoops x = busy();
        due("clear()", x.clear(), 6);
        types(x, "4; .;x");
        due("all there is", emptied(x), emptied(busy()));
    }

    public static void main(String[] args) {
        runAll(Promise03Clear.class);
    }
}
