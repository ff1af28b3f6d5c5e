import java.util.Arrays;

/** One loop round numbers: a grid, its sides, what follows, and all loops that there can be. */
public final class NumberedLoops {
    public static final int BAD = -1, STATE = -2, FULL = -3, CLASHES = -4, NONE = -9;

    private static final int OPEN = 0, LINE = 1, BLANK = 2;
    private static final int LONGEST = 4;
    private static final int MOST_CELLS = 16, MOST_POINTS = 25, MOST_SIDES = 40;
    private static final int MOST_LOOPS = 10000;
    private static final int MOST_UNDONE = 10;
    private static final int IMAGES = 2;

    private final Text text = new Text();
    private final Shape shape = new Shape();
    private final Board board = new Board();
    private final Past past = new Past();
    private final Shelf images = new Shelf(IMAGES);
    private final Rules rules = new Rules(shape, board);
    private final Loops loops = new Loops(shape, MOST_LOOPS);
    // Two are enough to tell none, just one and several apart.
    private final Loops probe = new Loops(shape, 2);
    private boolean searched = false;

    public NumberedLoops() {
        shape.become(2, 2);
    }

    // ---- what is told

    public int type(int letter) {
        if (letter < 0 || letter > 255) {
            return BAD;
        }
        return text.takes(letter) ? text.length : FULL;
    }

    public int clear() {
        int had = text.length;
        text.length = 0;
        return had;
    }

    public int grid() {
        int fault = text.read();
        if (fault != Text.NO_FAULT) {
            return -10 - fault;
        }
        shape.become(text.width, text.rows);
        board.become(0L, 0L, text.told);
        past.forget();
        images.forget();
        text.length = 0;
        searched = false;
        return shape.height;
    }

    public int number(int cell) {
        if (!shape.hasCell(cell)) {
            return BAD;
        }
        int n = board.numberOf(cell);
        return n < 0 ? NONE : n;
    }

    public int side(int side) {
        return shape.hasSide(side) ? board.stateOf(side) : BAD;
    }

    public int sideOf(int of, int place, int i) {
        if (i < 0 || i > 3) {
            return BAD;
        }
        if (of == 0) {
            return shape.hasCell(place) ? shape.sideOfCell(place, i) : BAD;
        }
        if (of == 1) {
            return shape.hasPoint(place) ? shape.sideOfPoint(place, i) : BAD;
        }
        return BAD;
    }

    // ---- what is done

    public int marks(int side, int as) {
        if (!shape.hasSide(side) || as < OPEN || as > BLANK) {
            return BAD;
        }
        int was = board.stateOf(side);
        if (was == as) {
            return STATE;
        }
        beforeChange();
        board.mark(side, as);
        return was;
    }

    public int numbers(int cell, int n) {
        if (!shape.hasCell(cell) || n < -1 || n > 4) {
            return BAD;
        }
        if (board.numberOf(cell) == n) {
            return STATE;
        }
        beforeChange();
        board.numbers = Board.withNumber(board.numbers, cell, n);
        return 1;
    }

    public int step() {
        rules.seek();
        if (rules.kind == Rules.NOTHING) {
            return STATE;
        }
        if (rules.kind == Rules.CLASH) {
            return CLASHES;
        }
        beforeChange();
        return follow();
    }

    public int spreads() {
        beforeChange();
        int became = 0;
        // Each step leaves fewer sides open, so there can't be more steps than sides.
        for (int i = 0; i <= MOST_SIDES; i++) {
            rules.seek();
            if (!rules.tells()) {
                break;
            }
            became += follow();
        }
        return became;
    }

    public int undo() {
        if (past.size == 0) {
            return STATE;
        }
        past.giveLatest(board);
        searched = false;
        return past.size;
    }

    // ---- what follows

    public int hint(int what) {
        if (what < 0 || what > 3) {
            return BAD;
        }
        rules.seek();
        if (what == 0) {
            return rules.kind;
        }
        if (rules.kind == Rules.NOTHING) {
            return NONE;
        }
        if (what == 1) {
            return rules.rule;
        }
        if (what == 2) {
            return rules.place;
        }
        return rules.tells() ? Long.bitCount(rules.told) : NONE;
    }

    public long hinted() {
        rules.seek();
        return rules.tells() ? rules.told : 0L;
    }

    // ---- all loops

    public int many(int most) {
        if (most < 1 || most > MOST_LOOPS) {
            return BAD;
        }
        searchLoops();
        return Math.min(loops.size, most);
    }

    public long loop(int k) {
        if (k < 0 || k >= MOST_LOOPS) {
            return BAD;
        }
        searchLoops();
        return k < loops.size ? loops.ring(k) : NONE;
    }

    public long forced(int what) {
        if (what < 0 || what > 1) {
            return BAD;
        }
        searchLoops();
        if (loops.size == 0) {
            return NONE;
        }
        return what == 0 ? loops.inAll() : loops.inNone();
    }

    public int inside(int k) {
        if (k < 0 || k >= MOST_LOOPS) {
            return BAD;
        }
        searchLoops();
        return k < loops.size ? shape.cellsWithin(loops.ring(k)) : NONE;
    }

    public int numbersThat(int what) {
        if (what < 0 || what > 1) {
            return BAD;
        }
        searchLoops();
        int there = what == 0 ? 1 : 0;
        if (loops.size != there) {
            return 0;
        }
        int those = 0;
        for (int cell = 0; cell < shape.cells; cell++) {
            if (board.numberOf(cell) < 0) {
                continue;
            }
            probe.search(board.lines, board.blanks, Board.withNumber(board.numbers, cell, -1));
            if (what == 0 ? probe.size == 1 : probe.size > 0) {
                those |= 1 << cell;
            }
        }
        return those;
    }

    public int tryNext() {
        searchLoops();
        int best = NONE;
        int evenness = 0;
        for (int side = 0; side < shape.sides; side++) {
            if (board.stateOf(side) != OPEN) {
                continue;
            }
            int with = loops.howManyHave(side);
            int lesser = Math.min(with, loops.size - with);
            if (lesser > evenness) {
                evenness = lesser;
                best = side;
            }
        }
        return best;
    }

    // ---- images

    public int keep(int image) {
        if (image < 0 || image >= IMAGES) {
            return BAD;
        }
        images.store(image, board);
        return openSides();
    }

    public int back(int image) {
        if (image < 0 || image >= IMAGES) {
            return BAD;
        }
        if (!images.has(image)) {
            return STATE;
        }
        images.give(image, board);
        past.forget();
        searched = false;
        return openSides();
    }

    public int count(int what) {
        switch (what) {
            case 0:
                return shape.width;
            case 1:
                return shape.height;
            case 2:
                return shape.sides;
            case 3:
                return Long.bitCount(board.lines);
            case 4:
                return Long.bitCount(board.blanks);
            case 5:
                return cellsWithNumber();
            case 6:
                return text.length;
            case 7:
                return past.size;
            default:
                return BAD;
        }
    }

    // ---- what the calls share

    private void beforeChange() {
        past.remember(board);
        searched = false;
    }

    /** The sides that the latest hint tells become what it tells. */
    private int follow() {
        if (rules.kind == Rules.LINES) {
            board.lines |= rules.told;
        } else {
            board.blanks |= rules.told;
        }
        return Long.bitCount(rules.told);
    }

    /** A search is dear, so its loops stand until something changes. */
    private void searchLoops() {
        if (!searched) {
            loops.search(board.lines, board.blanks, board.numbers);
            searched = true;
        }
    }

    private int openSides() {
        return shape.sides - Long.bitCount(board.lines) - Long.bitCount(board.blanks);
    }

    private int cellsWithNumber() {
        int with = 0;
        for (int cell = 0; cell < shape.cells; cell++) {
            if (board.numberOf(cell) >= 0) {
                with++;
            }
        }
        return with;
    }

    private static int at(int[] row, int i) {
        return i >= 0 && i < row.length ? row[i] : NONE;
    }

    private static long at(long[] row, int i) {
        return i >= 0 && i < row.length ? row[i] : 0L;
    }

    private static void put(int[] row, int i, int value) {
        if (i >= 0 && i < row.length) {
            row[i] = value;
        }
    }

    private static void put(long[] row, int i, long value) {
        if (i >= 0 && i < row.length) {
            row[i] = value;
        }
    }

    private static long bit(int side) {
        return 1L << side;
    }

    /** The letters that were told, and what they mean once they are read. */
    private static final class Text {
        static final int NO_FAULT = -1;
        private static final int NO_SIGN = -2;
        private static final int MOST_LETTERS = 40;

        private final int[] letters = new int[MOST_LETTERS];
        int length = 0;
        int rows = 0;
        int width = 0;
        long told = 0L;

        boolean takes(int letter) {
            if (length < 0 || length >= letters.length) {
                return false;
            }
            letters[length] = letter;
            length++;
            return true;
        }

        /** The place of the fault, or NO_FAULT: then rows, width and told are as the letters say. */
        int read() {
            rows = 0;
            width = 0;
            told = 0L;
            int cells = 0;
            int inRow = 0;
            for (int i = 0; i < length; i++) {
                int letter = at(letters, i);
                if (letter == ' ') {
                    continue;
                }
                int n = numberOfSign(letter);
                if (letter == ';' && endsRow(inRow)) {
                    width = inRow;
                    rows++;
                    inRow = 0;
                } else if (n != NO_SIGN && fitsRow(inRow)) {
                    told = Board.withNumber(told, cells, n);
                    cells++;
                    inRow++;
                } else {
                    return i;
                }
            }
            return rows == 0 || inRow > 0 ? length : NO_FAULT;
        }

        private boolean endsRow(int inRow) {
            return inRow > 0 && (rows == 0 || inRow == width);
        }

        private boolean fitsRow(int inRow) {
            return rows < LONGEST && inRow < (rows == 0 ? LONGEST : width);
        }

        private static int numberOfSign(int letter) {
            if (letter == '.') {
                return -1;
            }
            return letter >= '0' && letter <= '4' ? letter - '0' : NO_SIGN;
        }
    }

    /** How cells, points and sides of the grid lie to one another. Sets of sides are bits. */
    private static final class Shape {
        /** What lies beyond the grid has a number of its own among the hands of a side. */
        static final int BEYOND = MOST_CELLS;
        static final int BELOW = 1, LEFT = 2, RIGHT = 3;

        int width = 0;
        int height = 0;
        int cells = 0;
        int points = 0;
        int sides = 0;
        private final int[] cellSides = new int[MOST_CELLS * 4];
        private final int[] pointSides = new int[MOST_POINTS * 4];
        private final int[] hands = new int[MOST_SIDES * 2];
        private final int[] ends = new int[MOST_SIDES * 2];
        private final long[] round = new long[MOST_CELLS + 1];
        private final long[] meeting = new long[MOST_POINTS];
        private final long[] besides = new long[MOST_SIDES];
        private final long[] settled = new long[MOST_CELLS];
        private final long[] corner = new long[MOST_CELLS];

        void become(int newWidth, int newHeight) {
            width = newWidth;
            height = newHeight;
            cells = width * height;
            points = (width + 1) * (height + 1);
            sides = width * (height + 1) + (width + 1) * height;
            Arrays.fill(hands, BEYOND);
            Arrays.fill(round, 0L);
            Arrays.fill(meeting, 0L);
            Arrays.fill(besides, 0L);
            Arrays.fill(settled, 0L);
            layCells();
            layPoints();
            layBesides();
            laySettled();
            layCorners();
        }

        private void layCells() {
            for (int y = 0; y < height; y++) {
                for (int x = 0; x < width; x++) {
                    int cell = y * width + x;
                    layCellSide(cell, 0, lying(x, y));
                    layCellSide(cell, BELOW, lying(x, y + 1));
                    layCellSide(cell, LEFT, standing(x, y));
                    layCellSide(cell, RIGHT, standing(x + 1, y));
                }
            }
            for (int side = 0; side < sides; side++) {
                if (hand(side, 0) == BEYOND || hand(side, 1) == BEYOND) {
                    put(round, BEYOND, roundCell(BEYOND) | bit(side));
                }
            }
        }

        private void layPoints() {
            for (int y = 0; y <= height; y++) {
                for (int x = 0; x <= width; x++) {
                    int point = y * (width + 1) + x;
                    layPointSide(point, 0, x > 0 ? lying(x - 1, y) : NONE);
                    layPointSide(point, 1, x < width ? lying(x, y) : NONE);
                    layPointSide(point, 2, y > 0 ? standing(x, y - 1) : NONE);
                    layPointSide(point, 3, y < height ? standing(x, y) : NONE);
                }
            }
        }

        private int lying(int x, int y) {
            return y * width + x;
        }

        private int standing(int x, int y) {
            return width * (height + 1) + y * (width + 1) + x;
        }

        private void layCellSide(int cell, int i, int side) {
            put(cellSides, cell * 4 + i, side);
            put(round, cell, roundCell(cell) | bit(side));
            put(hands, side * 2 + firstOrSecond(i), cell);
        }

        private void layPointSide(int point, int i, int side) {
            put(pointSides, point * 4 + i, side);
            if (side != NONE) {
                put(meeting, point, atPoint(point) | bit(side));
                put(ends, side * 2 + firstOrSecond(i), point);
            }
        }

        /** A cell is the second hand of its sides above and left, a point the second end of those left and up. */
        private static int firstOrSecond(int i) {
            return i == 0 || i == 2 ? 1 : 0;
        }

        private void layBesides() {
            for (int side = 0; side < sides; side++) {
                put(besides, side, atPoint(end(side, 0)) | atPoint(end(side, 1)));
            }
        }

        private void laySettled() {
            for (int side = 0; side < sides; side++) {
                int lowest = Math.min(hand(side, 0), hand(side, 1));
                for (int cell = 0; cell <= lowest && cell < cells; cell++) {
                    put(settled, cell, settledFrom(cell) | bit(side));
                }
            }
        }

        private void layCorners() {
            for (int cell = 0; cell < cells; cell++) {
                put(corner, cell, atPoint(end(sideOfCell(cell, BELOW), 1)));
            }
        }

        boolean hasCell(int cell) {
            return cell >= 0 && cell < cells;
        }

        boolean hasPoint(int point) {
            return point >= 0 && point < points;
        }

        boolean hasSide(int side) {
            return side >= 0 && side < sides;
        }

        int sideOfCell(int cell, int i) {
            return at(cellSides, cell * 4 + i);
        }

        int sideOfPoint(int point, int i) {
            return at(pointSides, point * 4 + i);
        }

        /** The cell (or BEYOND) above or left of a side (0), below or right of it (1). */
        int hand(int side, int which) {
            return at(hands, side * 2 + which);
        }

        /** The point at which a side begins, from above or from the left (0), or ends (1). */
        int end(int side, int which) {
            return at(ends, side * 2 + which);
        }

        /** The sides of a cell, or of what is BEYOND. */
        long roundCell(int cell) {
            return cell >= 0 && cell < round.length ? round[cell] : 0L;
        }

        long atPoint(int point) {
            return point >= 0 && point < meeting.length ? meeting[point] : 0L;
        }

        /** The sides both whose hands are BEYOND, this cell or later ones. */
        long settledFrom(int cell) {
            return cell >= 0 && cell < settled.length ? settled[cell] : 0L;
        }

        /** The sides that meet at a cell's corner below and right. */
        long atCorner(int cell) {
            return cell >= 0 && cell < corner.length ? corner[cell] : 0L;
        }

        long allSides() {
            return bit(sides) - 1L;
        }

        /** Those of the lines that hang together with one of them, that one too. */
        long chainOf(long lines, int line) {
            long chain = bit(line);
            long fresh = chain;
            for (int i = 0; i < MOST_SIDES && fresh != 0L; i++) {
                int side = Long.numberOfTrailingZeros(fresh);
                long met = side < besides.length ? besides[side] & lines & ~chain : 0L;
                chain |= met;
                fresh = fresh & (fresh - 1L) | met;
            }
            return chain;
        }

        int cellsWithin(long ring) {
            int within = 0;
            for (int y = 0; y < height; y++) {
                boolean in = false;
                for (int x = 0; x < width; x++) {
                    if ((ring & bit(standing(x, y))) != 0L) {
                        in = !in;
                    }
                    if (in) {
                        within |= 1 << (y * width + x);
                    }
                }
            }
            return within;
        }
    }

    /** What changes on the grid: the sides that are lines, those that are blank, the numbers. */
    private static final class Board {
        private static final int BITS = 4;

        long lines = 0L;
        long blanks = 0L;
        // Four bits a cell, the number and 1 more, 0 for none: so a whole board is copied as three numbers.
        long numbers = 0L;

        void become(long newLines, long newBlanks, long newNumbers) {
            lines = newLines;
            blanks = newBlanks;
            numbers = newNumbers;
        }

        int stateOf(int side) {
            if ((lines & bit(side)) != 0L) {
                return LINE;
            }
            return (blanks & bit(side)) != 0L ? BLANK : OPEN;
        }

        void mark(int side, int as) {
            lines &= ~bit(side);
            blanks &= ~bit(side);
            if (as == LINE) {
                lines |= bit(side);
            } else if (as == BLANK) {
                blanks |= bit(side);
            }
        }

        /** The number of a cell, or -1. */
        int numberOf(int cell) {
            return numberIn(numbers, cell);
        }

        static int numberIn(long numbers, int cell) {
            return (int) (numbers >>> (BITS * cell) & 15L) - 1;
        }

        static long withNumber(long numbers, int cell, int n) {
            long others = numbers & ~(15L << (BITS * cell));
            return others | (long) (n + 1) << (BITS * cell);
        }
    }

    /** Places at which boards are kept. */
    private static final class Shelf {
        private final long[] lines;
        private final long[] blanks;
        private final long[] numbers;
        private final int[] kept;

        Shelf(int places) {
            int length = Math.max(places, 0);
            lines = new long[length];
            blanks = new long[length];
            numbers = new long[length];
            kept = new int[length];
        }

        boolean has(int place) {
            return at(kept, place) == 1;
        }

        void store(int place, Board board) {
            put(lines, place, board.lines);
            put(blanks, place, board.blanks);
            put(numbers, place, board.numbers);
            put(kept, place, 1);
        }

        void give(int place, Board board) {
            board.become(at(lines, place), at(blanks, place), at(numbers, place));
        }

        void forget() {
            Arrays.fill(kept, 0);
        }
    }

    /** The boards before the latest changes; the oldest is lost when there are too many. */
    private static final class Past {
        private final Shelf shelf = new Shelf(MOST_UNDONE);
        private int next = 0;
        int size = 0;

        void remember(Board board) {
            shelf.store(next, board);
            next = next + 1 < MOST_UNDONE ? next + 1 : 0;
            size = Math.min(size + 1, MOST_UNDONE);
        }

        void giveLatest(Board board) {
            next = next > 0 ? next - 1 : MOST_UNDONE - 1;
            size = Math.max(size - 1, 0);
            shelf.give(next, board);
        }

        void forget() {
            size = 0;
        }
    }

    /** The four rules, and the hint: the first place at which one of them tells something or clashes. */
    private static final class Rules {
        static final int NOTHING = 0, BLANKS = 1, LINES = 2, CLASH = 3;
        private static final int SAME = 1, UNLIKE = 2;
        // A place on a way: the cell (or beyond), and this many more if it is unlike the first hand.
        private static final int TURNED = 32;

        private final Shape shape;
        private final Board board;
        int kind = NOTHING;
        int rule = 0;
        int place = 0;
        long told = 0L;

        Rules(Shape shape, Board board) {
            this.shape = shape;
            this.board = board;
        }

        boolean tells() {
            return kind == BLANKS || kind == LINES;
        }

        void seek() {
            kind = NOTHING;
            told = 0L;
            rule = 0;
            for (int cell = 0; cell < shape.cells && kind == NOTHING; cell++) {
                place = cell;
                lookAtCell(board.numberOf(cell), shape.roundCell(cell));
            }
            if (kind == NOTHING) {
                rule = 1;
            }
            for (int point = 0; point < shape.points && kind == NOTHING; point++) {
                place = point;
                lookAtPoint(shape.atPoint(point));
            }
            if (kind == NOTHING) {
                rule = 2;
            }
            for (int side = 0; side < shape.sides && kind == NOTHING; side++) {
                place = side;
                lookAtChain(side, board.stateOf(side));
            }
            if (kind == NOTHING) {
                rule = 3;
            }
            for (int side = 0; side < shape.sides && kind == NOTHING; side++) {
                place = side;
                lookAtHands(side, board.stateOf(side));
            }
        }

        private void lookAtCell(int n, long around) {
            if (n < 0) {
                return;
            }
            long open = openOf(around);
            int l = Long.bitCount(around & board.lines);
            int o = Long.bitCount(open);
            if (l > n || l + o < n) {
                kind = CLASH;
            } else if (o > 0 && l == n) {
                tell(BLANKS, open);
            } else if (o > 0 && l + o == n) {
                tell(LINES, open);
            }
        }

        private void lookAtPoint(long meeting) {
            long open = openOf(meeting);
            int l = Long.bitCount(meeting & board.lines);
            int o = Long.bitCount(open);
            if (l > 2 || l == 1 && o == 0) {
                kind = CLASH;
            } else if (l == 2 && o > 0 || l == 0 && o == 1) {
                tell(BLANKS, open);
            } else if (l == 1 && o == 1) {
                tell(LINES, open);
            }
        }

        private void lookAtChain(int side, int state) {
            if (state == LINE) {
                long chain = shape.chainOf(board.lines, side);
                if (othersThan(chain) && isClosed(chain)) {
                    kind = CLASH;
                }
            } else if (state == OPEN) {
                long chain = chainThatWouldClose(side);
                if (chain != 0L && (othersThan(chain) || missesNumber(board.lines | bit(side)))) {
                    tell(BLANKS, bit(side));
                }
            }
        }

        private boolean othersThan(long chain) {
            return (board.lines & ~chain) != 0L;
        }

        private boolean isClosed(long chain) {
            for (int point = 0; point < shape.points; point++) {
                long meeting = shape.atPoint(point);
                if ((meeting & chain) != 0L && Long.bitCount(meeting & board.lines) != 2) {
                    return false;
                }
            }
            return true;
        }

        /** The chain that has lines at both points of an open side; 0 if there is none. */
        private long chainThatWouldClose(int side) {
            long first = shape.atPoint(shape.end(side, 0)) & board.lines;
            long second = shape.atPoint(shape.end(side, 1)) & board.lines;
            if (first == 0L || second == 0L) {
                return 0L;
            }
            long chain = shape.chainOf(board.lines, Long.numberOfTrailingZeros(first));
            return (chain & second) != 0L ? chain : 0L;
        }

        private boolean missesNumber(long lines) {
            for (int cell = 0; cell < shape.cells; cell++) {
                int n = board.numberOf(cell);
                if (n >= 0 && Long.bitCount(shape.roundCell(cell) & lines) != n) {
                    return true;
                }
            }
            return false;
        }

        private void lookAtHands(int side, int state) {
            int ways = waysPast(side);
            if (state == OPEN) {
                if (ways == UNLIKE) {
                    tell(LINES, bit(side));
                } else if (ways == SAME) {
                    tell(BLANKS, bit(side));
                }
            } else if ((ways & (state == LINE ? SAME : UNLIKE)) != 0) {
                kind = CLASH;
            }
        }

        /** What ways over other lines and blanks tell of a side's hands: SAME, UNLIKE, both (together), 0. */
        private int waysPast(int side) {
            long marked = (board.lines | board.blanks) & ~bit(side);
            long reached = bit(shape.hand(side, 0));
            long fresh = reached;
            for (int i = 0; i < TURNED * 2 && fresh != 0L; i++) {
                int from = Long.numberOfTrailingZeros(fresh);
                long next = nextOnWay(from, marked) & ~reached;
                reached |= next;
                fresh = (fresh & ~bit(from)) | next;
            }
            int goal = shape.hand(side, 1);
            int same = (reached & bit(goal)) != 0L ? SAME : 0;
            int unlike = (reached & bit(goal + TURNED)) != 0L ? UNLIKE : 0;
            return same | unlike;
        }

        private long nextOnWay(int from, long marked) {
            int hand = from < TURNED ? from : from - TURNED;
            int turned = from - hand;
            long next = 0L;
            long around = shape.roundCell(hand) & marked;
            for (int i = 0; i < MOST_SIDES && around != 0L; i++) {
                int side = Long.numberOfTrailingZeros(around);
                around &= ~bit(side);
                int other = shape.hand(side, 0) == hand ? shape.hand(side, 1) : shape.hand(side, 0);
                boolean crosses = (board.lines & bit(side)) != 0L;
                next |= bit(other + (crosses ? TURNED - turned : turned));
            }
            return next;
        }

        private long openOf(long some) {
            return some & ~board.lines & ~board.blanks;
        }

        private void tell(int what, long which) {
            kind = what;
            told = which;
        }
    }

    /** All loops with some lines, without some blanks, that fit some numbers; the lesser first. */
    private static final class Loops {
        private final Shape shape;
        private final long[] rings;
        private long lines = 0L;
        private long blanks = 0L;
        private long numbers = 0L;
        int size = 0;

        Loops(Shape shape, int most) {
            this.shape = shape;
            rings = new long[Math.max(most, 0)];
        }

        void search(long withLines, long withoutBlanks, long withNumbers) {
            lines = withLines;
            blanks = withoutBlanks;
            numbers = withNumbers;
            size = 0;
            decide(this, Math.min(shape.cells, MOST_CELLS) - 1, 0L);
        }

        long ring(int k) {
            return at(rings, k);
        }

        long inAll() {
            long all = shape.allSides();
            for (int k = 0; k < size && k < rings.length; k++) {
                all &= rings[k];
            }
            return all;
        }

        long inNone() {
            long some = 0L;
            for (int k = 0; k < size && k < rings.length; k++) {
                some |= rings[k];
            }
            return shape.allSides() & ~some;
        }

        int howManyHave(int side) {
            int have = 0;
            for (int k = 0; k < size && k < rings.length; k++) {
                have += (int) (rings[k] >>> side & 1L);
            }
            return have;
        }

        /**
         * Cells are said to be inside or outside, the last one first; the loop's sides are those between unlike ones.
         * The highest side that is not yet settled is always the one right of the cell: the choice that leaves
         * it out goes first, so that the lesser loops are found first. No deeper than there are cells.
         */
        private static void decide(Loops loops, int cell, long between) {
            if (loops.size >= loops.rings.length) {
                return;
            }
            if (cell < 0) {
                loops.takeRing(between);
                return;
            }
            Shape shape = loops.shape;
            long changed = between ^ shape.roundCell(cell);
            boolean rightIsIn = (between & bit(shape.sideOfCell(cell, Shape.RIGHT))) != 0L;
            long first = rightIsIn ? changed : between;
            long second = rightIsIn ? between : changed;
            if (loops.fits(cell, first)) {
                decide(loops, cell - 1, first);
            }
            if (loops.fits(cell, second)) {
                decide(loops, cell - 1, second);
            }
        }

        private void takeRing(long ring) {
            boolean oneRing = ring != 0L && shape.chainOf(ring, Long.numberOfTrailingZeros(ring)) == ring;
            if (oneRing && size >= 0 && size < rings.length) {
                rings[size] = ring;
                size++;
            }
        }

        private boolean fits(int cell, long between) {
            long settled = shape.settledFrom(cell);
            if ((between & settled & blanks) != 0L || (~between & settled & lines) != 0L) {
                return false;
            }
            // Of all points this one alone was not settled before and can have four lines.
            if (Long.bitCount(between & shape.atCorner(cell)) > 2) {
                return false;
            }
            if (numbers == 0L) {
                return true;
            }
            // No other cell has a side that was settled just now.
            int below = shape.hand(shape.sideOfCell(cell, Shape.BELOW), 1);
            int right = shape.hand(shape.sideOfCell(cell, Shape.RIGHT), 1);
            return fitsNumber(cell, between, settled)
                && fitsNumber(below, between, settled)
                && fitsNumber(right, between, settled);
        }

        private boolean fitsNumber(int cell, long between, long settled) {
            int n = cell < Shape.BEYOND ? Board.numberIn(numbers, cell) : -1;
            if (n < 0) {
                return true;
            }
            long around = shape.roundCell(cell);
            int l = Long.bitCount(around & settled & between);
            int o = Long.bitCount(around & ~settled);
            return l <= n && n <= l + o;
        }
    }
}
