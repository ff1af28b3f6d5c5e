import java.util.ArrayDeque;
import java.util.ArrayList;
import java.util.Arrays;
import java.util.HashMap;
import java.util.List;
import java.util.Map;
import java.util.Random;
import java.util.TreeSet;

/**
 * Long runs of calls, the same each time, each answer compared with that of a second, slow model of the document.
 * The model shares no way of working with the class: loops are grown point by point as paths, the inside is flooded,
 * states are whole copies, rules look at lists.
 */
public final class ModelRuns {
    private static final int RUNS = 1200;
    /** No object is asked more than 512 times; the last 64 are for a look at all of it. */
    private static final int CALLS = 512 - 64;
    private static final int BAD = -1, STATE = -2, FULL = -3, CLASHES = -4, NONE = -9;
    private static int wrong = 0;
    /** How often a hint of each kind came from each rule, so that one can see that all of them were tried. */
    private static final int[][] SEEN = new int[4][4];

    /** Numbers (-1: none) and sides (0, 1, 2) at one time. */
    private record State(int[] numbers, int[] sides) {
        State copy() {
            return new State(numbers.clone(), sides.clone());
        }
    }

    private record Hint(int kind, int rule, int place, List<Integer> sides) {
    }

    private static final class Model {
        private static final Map<Integer, List<Long>> RINGS = new HashMap<>();
        int width;
        int height;
        State state;
        final List<List<Integer>> hands = new ArrayList<>();
        final List<List<Integer>> ends = new ArrayList<>();
        final ArrayList<State> past = new ArrayList<>();
        final State[] images = new State[2];
        final StringBuilder text = new StringBuilder();

        Model() {
            become(2, 2, new int[] {-1, -1, -1, -1});
        }

        void become(int w, int h, int[] numbers) {
            width = w;
            height = h;
            state = new State(numbers, new int[w * (h + 1) + (w + 1) * h]);
            past.clear();
            Arrays.fill(images, null);
            hands.clear();
            ends.clear();
            for (int s = 0; s < sides(); s++) {
                hands.add(lookForHands(s));
                ends.add(lookForPoints(s));
            }
        }

        List<Integer> pointsOfSide(int side) {
            return ends.get(side);
        }

        List<Integer> handsOfSide(int side) {
            return hands.get(side);
        }

        int cells() {
            return width * height;
        }

        int points() {
            return (width + 1) * (height + 1);
        }

        int sides() {
            return state.sides.length;
        }

        int lying(int x, int y) {
            return x >= 0 && x < width && y >= 0 && y <= height ? y * width + x : NONE;
        }

        int standing(int x, int y) {
            return x >= 0 && x <= width && y >= 0 && y < height ? width * (height + 1) + y * (width + 1) + x : NONE;
        }

        int[] sidesOfCell(int cell) {
            int x = cell % width;
            int y = cell / width;
            return new int[] {lying(x, y), lying(x, y + 1), standing(x, y), standing(x + 1, y)};
        }

        int[] sidesOfPoint(int point) {
            int x = point % (width + 1);
            int y = point / (width + 1);
            return new int[] {lying(x - 1, y), lying(x, y), standing(x, y - 1), standing(x, y)};
        }

        List<Integer> lookForPoints(int side) {
            List<Integer> those = new ArrayList<>();
            for (int p = 0; p < points(); p++) {
                for (int s : sidesOfPoint(p)) {
                    if (s == side) {
                        those.add(p);
                    }
                }
            }
            return those;
        }

        /** The cells on a side's hands; -1 is what is beyond. */
        List<Integer> lookForHands(int side) {
            List<Integer> those = new ArrayList<>();
            for (int c = 0; c < cells(); c++) {
                for (int s : sidesOfCell(c)) {
                    if (s == side) {
                        those.add(c);
                    }
                }
            }
            if (those.size() == 1) {
                those.add(-1);
            }
            return those;
        }

        // ---- the text

        int grid() {
            List<List<Integer>> rows = new ArrayList<>();
            List<Integer> row = new ArrayList<>();
            for (int i = 0; i < text.length(); i++) {
                char c = text.charAt(i);
                if (c == ' ') {
                    continue;
                }
                int wanted = rows.isEmpty() ? 0 : rows.get(0).size();
                boolean more = rows.isEmpty() ? row.size() < 4 : row.size() < wanted;
                boolean enough = rows.isEmpty() ? row.size() >= 1 : row.size() == wanted;
                if (rows.size() == 4) {
                    return -10 - i;
                } else if (".01234".indexOf(c) >= 0 && more) {
                    row.add(c == '.' ? -1 : c - '0');
                } else if (c == ';' && enough) {
                    rows.add(row);
                    row = new ArrayList<>();
                } else {
                    return -10 - i;
                }
            }
            if (rows.isEmpty() || !row.isEmpty()) {
                return -10 - text.length();
            }
            int[] numbers = rows.stream().flatMap(List::stream).mapToInt(n -> n).toArray();
            become(rows.get(0).size(), rows.size(), numbers);
            text.setLength(0);
            return rows.size();
        }

        // ---- the rules

        int as(int what, int... sides) {
            int n = 0;
            for (int s : sides) {
                if (s != NONE && state.sides[s] == what) {
                    n++;
                }
            }
            return n;
        }

        List<Integer> open(int... sides) {
            List<Integer> those = new ArrayList<>();
            for (int s : sides) {
                if (s != NONE && state.sides[s] == 0) {
                    those.add(s);
                }
            }
            return those;
        }

        Hint hint() {
            for (int c = 0; c < cells(); c++) {
                Hint h = ruleOfCell(c);
                if (h != null) {
                    return h;
                }
            }
            for (int p = 0; p < points(); p++) {
                Hint h = ruleOfPoint(p);
                if (h != null) {
                    return h;
                }
            }
            for (int s = 0; s < sides(); s++) {
                Hint h = ruleOfChain(s);
                if (h != null) {
                    return h;
                }
            }
            for (int s = 0; s < sides(); s++) {
                Hint h = ruleOfHands(s);
                if (h != null) {
                    return h;
                }
            }
            return new Hint(0, NONE, NONE, List.of());
        }

        Hint ruleOfCell(int c) {
            int n = state.numbers[c];
            int l = as(1, sidesOfCell(c));
            int o = as(0, sidesOfCell(c));
            if (n == -1) {
                return null;
            }
            if (l > n || l + o < n) {
                return new Hint(3, 0, c, List.of());
            }
            if (o == 0) {
                return null;
            }
            if (l == n) {
                return new Hint(1, 0, c, open(sidesOfCell(c)));
            }
            return l + o == n ? new Hint(2, 0, c, open(sidesOfCell(c))) : null;
        }

        Hint ruleOfPoint(int p) {
            int l = as(1, sidesOfPoint(p));
            int o = as(0, sidesOfPoint(p));
            List<Integer> open = open(sidesOfPoint(p));
            if (l > 2 || (l == 1 && o == 0)) {
                return new Hint(3, 1, p, List.of());
            }
            if (l == 2 && o > 0) {
                return new Hint(1, 1, p, open);
            }
            if (l == 1 && o == 1) {
                return new Hint(2, 1, p, open);
            }
            return l == 0 && o == 1 ? new Hint(1, 1, p, open) : null;
        }

        /** A number for each point that lines touch, the same for points of one chain; -1 for the others. */
        int[] chains() {
            int[] chain = new int[points()];
            Arrays.fill(chain, -1);
            for (int s = 0; s < sides(); s++) {
                if (state.sides[s] == 1) {
                    for (int p : pointsOfSide(s)) {
                        chain[p] = p;
                    }
                }
            }
            boolean again = true;
            while (again) {
                again = false;
                for (int s = 0; s < sides(); s++) {
                    if (state.sides[s] == 1) {
                        int a = pointsOfSide(s).get(0);
                        int b = pointsOfSide(s).get(1);
                        again |= chain[a] != chain[b];
                        chain[a] = chain[b] = Math.min(chain[a], chain[b]);
                    }
                }
            }
            return chain;
        }

        Hint ruleOfChain(int s) {
            if (state.sides[s] == 2) {
                return null;
            }
            int[] chain = chains();
            int a = chain[pointsOfSide(s).get(0)];
            int b = chain[pointsOfSide(s).get(1)];
            if (a == -1 || a != b) {
                return null;
            }
            boolean others = false;
            for (int t = 0; t < sides(); t++) {
                others |= state.sides[t] == 1 && chain[pointsOfSide(t).get(0)] != a;
            }
            if (state.sides[s] == 1) {
                boolean closed = true;
                for (int p = 0; p < points(); p++) {
                    closed &= chain[p] != a || as(1, sidesOfPoint(p)) == 2;
                }
                return closed && others ? new Hint(3, 2, s, List.of()) : null;
            }
            boolean misses = false;
            for (int c = 0; c < cells(); c++) {
                int then = as(1, sidesOfCell(c)) + (handsOfSide(s).contains(c) ? 1 : 0);
                misses |= state.numbers[c] != -1 && state.numbers[c] != then;
            }
            return others || misses ? new Hint(1, 2, s, List.of(s)) : null;
        }

        Hint ruleOfHands(int s) {
            boolean[][] ways = ways(s);
            int goal = handsOfSide(s).get(1) + 1;
            boolean same = ways[goal][0];
            boolean unlike = ways[goal][1];
            if (state.sides[s] == 0) {
                if (same == unlike) {
                    return null;
                }
                return new Hint(unlike ? 2 : 1, 3, s, List.of(s));
            }
            boolean otherwise = state.sides[s] == 1 ? same : unlike;
            return otherwise ? new Hint(3, 3, s, List.of()) : null;
        }

        /** From the first hand of a side over all others that are marked: what is reached, with how many lines (odd: 1). */
        boolean[][] ways(int without) {
            boolean[][] reached = new boolean[cells() + 1][2];
            ArrayDeque<int[]> queue = new ArrayDeque<>();
            queue.add(new int[] {handsOfSide(without).get(0), 0});
            while (!queue.isEmpty()) {
                int[] at = queue.remove();
                if (reached[at[0] + 1][at[1]]) {
                    continue;
                }
                reached[at[0] + 1][at[1]] = true;
                for (int s = 0; s < sides(); s++) {
                    List<Integer> hands = handsOfSide(s);
                    if (s != without && state.sides[s] != 0 && hands.contains(at[0])) {
                        int other = hands.get(0) == at[0] ? hands.get(1) : hands.get(0);
                        queue.add(new int[] {other, state.sides[s] == 1 ? 1 - at[1] : at[1]});
                    }
                }
            }
            return reached;
        }

        int follow() {
            Hint h = hint();
            if (h.kind == 0 || h.kind == 3) {
                return h.kind == 0 ? STATE : CLASHES;
            }
            for (int s : h.sides) {
                state.sides[s] = h.kind == 1 ? 2 : 1;
            }
            return h.sides.size();
        }

        int step() {
            State before = state.copy();
            int became = follow();
            if (became > 0) {
                remember(before);
            }
            return became;
        }

        int spreads() {
            remember(state.copy());
            int all = 0;
            for (int became = follow(); became > 0; became = follow()) {
                all += became;
            }
            return all;
        }

        void remember(State before) {
            past.add(before);
            if (past.size() > 10) {
                past.remove(0);
            }
        }

        int undo() {
            if (past.isEmpty()) {
                return STATE;
            }
            state = past.remove(past.size() - 1);
            return past.size();
        }

        int marks(int side, int as) {
            if (side < 0 || side >= sides() || as < 0 || as > 2) {
                return BAD;
            }
            int was = state.sides[side];
            if (was == as) {
                return STATE;
            }
            remember(state.copy());
            state.sides[side] = as;
            return was;
        }

        int numbers(int cell, int n) {
            if (cell < 0 || cell >= cells() || n < -1 || n > 4) {
                return BAD;
            }
            if (state.numbers[cell] == n) {
                return STATE;
            }
            remember(state.copy());
            state.numbers[cell] = n;
            return 1;
        }

        // ---- the loops

        List<Long> rings() {
            return RINGS.computeIfAbsent(width * 10 + height, k -> {
                TreeSet<Long> all = new TreeSet<>();
                for (int p = 0; p < points(); p++) {
                    grow(p, p, new boolean[points()], 0L, all);
                }
                return new ArrayList<>(all);
            });
        }

        /** Paths over points above the first one, till they are back at it. */
        void grow(int first, int at, boolean[] been, long path, TreeSet<Long> all) {
            been[at] = true;
            int[] steps = {-1, 1, -(width + 1), width + 1};
            for (int i = 0; i < 4; i++) {
                int side = sidesOfPoint(at)[i];
                if (side == NONE || (path >> side & 1) != 0) {
                    continue;
                }
                int next = at + steps[i];
                if (next == first && Long.bitCount(path) >= 3) {
                    all.add(path | 1L << side);
                } else if (next > first && !been[next]) {
                    grow(first, next, been, path | 1L << side, all);
                }
            }
            been[at] = false;
        }

        List<Long> loops(int without) {
            List<Long> those = new ArrayList<>();
            for (long ring : rings()) {
                boolean fits = true;
                for (int s = 0; s < sides() && fits; s++) {
                    boolean has = (ring >> s & 1) == 1;
                    fits = has ? state.sides[s] != 2 : state.sides[s] != 1;
                }
                for (int c = 0; c < cells() && fits; c++) {
                    int n = 0;
                    for (int s : sidesOfCell(c)) {
                        n += (int) (ring >> s & 1);
                    }
                    fits = c == without || state.numbers[c] == -1 || state.numbers[c] == n;
                }
                if (fits) {
                    those.add(ring);
                }
            }
            return those;
        }

        long forced(int what) {
            List<Long> all = loops(-1);
            if (all.isEmpty()) {
                return NONE;
            }
            long those = 0;
            for (int s = 0; s < sides(); s++) {
                int with = 0;
                for (long ring : all) {
                    with += (int) (ring >> s & 1);
                }
                if (with == (what == 0 ? all.size() : 0)) {
                    those |= 1L << s;
                }
            }
            return those;
        }

        int inside(long ring) {
            boolean[] out = new boolean[cells()];
            boolean again = true;
            while (again) {
                again = false;
                for (int s = 0; s < sides(); s++) {
                    int a = handsOfSide(s).get(0);
                    int b = handsOfSide(s).get(1);
                    if ((ring >> s & 1) == 0) {
                        if (!out[a] && (b == -1 || out[b])) {
                            out[a] = again = true;
                        }
                        if (b != -1 && !out[b] && out[a]) {
                            out[b] = again = true;
                        }
                    }
                }
            }
            int in = 0;
            for (int c = 0; c < cells(); c++) {
                in |= out[c] ? 0 : 1 << c;
            }
            return in;
        }

        int numbersThat(int what) {
            int now = loops(-1).size();
            if (now != (what == 0 ? 1 : 0)) {
                return 0;
            }
            int those = 0;
            for (int c = 0; c < cells(); c++) {
                int then = state.numbers[c] == -1 ? 0 : loops(c).size();
                if (what == 0 ? then == 1 : then >= 1) {
                    those |= 1 << c;
                }
            }
            return those;
        }

        int tryNext() {
            List<Long> all = loops(-1);
            int best = NONE;
            int most = 0;
            for (int s = 0; s < sides(); s++) {
                int with = 0;
                for (long ring : all) {
                    with += (int) (ring >> s & 1);
                }
                int lesser = Math.min(with, all.size() - with);
                if (state.sides[s] == 0 && lesser > most) {
                    most = lesser;
                    best = s;
                }
            }
            return best;
        }

        int count(int what) {
            int[] all = new int[sides()];
            Arrays.setAll(all, i -> i);
            return switch (what) {
                case 0 -> width;
                case 1 -> height;
                case 2 -> sides();
                case 3 -> as(1, all);
                case 4 -> as(2, all);
                case 5 -> (int) Arrays.stream(state.numbers).filter(n -> n != -1).count();
                case 6 -> text.length();
                case 7 -> past.size();
                default -> BAD;
            };
        }

        int openSides() {
            return sides() - count(3) - count(4);
        }

        long answer(String call, int a, int b, int c) {
            boolean cell = a >= 0 && a < cells();
            boolean k = a >= 0 && a <= 9999;
            boolean two = a == 0 || a == 1;
            switch (call) {
                case "type":
                    if (a < 0 || a > 255) {
                        return BAD;
                    }
                    return text.length() == 40 ? FULL : text.append((char) a).length();
                case "clear":
                    int had = text.length();
                    text.setLength(0);
                    return had;
                case "grid":
                    return grid();
                case "number":
                    return !cell ? BAD : state.numbers[a] == -1 ? NONE : state.numbers[a];
                case "side":
                    return a >= 0 && a < sides() ? state.sides[a] : BAD;
                case "sideOf":
                    if (!two || b < 0 || b >= (a == 0 ? cells() : points()) || c < 0 || c > 3) {
                        return BAD;
                    }
                    return (a == 0 ? sidesOfCell(b) : sidesOfPoint(b))[c];
                case "marks":
                    return marks(a, b);
                case "numbers":
                    return numbers(a, b);
                case "step":
                    return step();
                case "spreads":
                    return spreads();
                case "undo":
                    return undo();
                case "hint":
                    Hint h = hint();
                    return switch (a) {
                        case 0 -> h.kind;
                        case 1 -> h.rule;
                        case 2 -> h.place;
                        case 3 -> h.kind == 0 || h.kind == 3 ? NONE : h.sides.size();
                        default -> BAD;
                    };
                case "hinted":
                    return hint().sides.stream().mapToLong(s -> 1L << s).sum();
                case "many":
                    return a < 1 || a > 10000 ? BAD : Math.min(a, loops(-1).size());
                case "loop":
                    return !k ? BAD : a < loops(-1).size() ? loops(-1).get(a) : NONE;
                case "forced":
                    return two ? forced(a) : BAD;
                case "inside":
                    return !k ? BAD : a < loops(-1).size() ? inside(loops(-1).get(a)) : NONE;
                case "numbersThat":
                    return two ? numbersThat(a) : BAD;
                case "tryNext":
                    return tryNext();
                case "keep":
                    if (!two) {
                        return BAD;
                    }
                    images[a] = state.copy();
                    return openSides();
                case "back":
                    if (!two || images[a] == null) {
                        return two ? STATE : BAD;
                    }
                    state = images[a].copy();
                    past.clear();
                    return openSides();
                default:
                    return count(a);
            }
        }
    }

    private static long answer(NumberedLoops x, String call, int a, int b, int c) {
        return switch (call) {
            case "type" -> x.type(a);
            case "clear" -> x.clear();
            case "grid" -> x.grid();
            case "number" -> x.number(a);
            case "side" -> x.side(a);
            case "sideOf" -> x.sideOf(a, b, c);
            case "marks" -> x.marks(a, b);
            case "numbers" -> x.numbers(a, b);
            case "step" -> x.step();
            case "spreads" -> x.spreads();
            case "undo" -> x.undo();
            case "hint" -> x.hint(a);
            case "hinted" -> x.hinted();
            case "many" -> x.many(a);
            case "loop" -> x.loop(a);
            case "forced" -> x.forced(a);
            case "inside" -> x.inside(a);
            case "numbersThat" -> x.numbersThat(a);
            case "tryNext" -> x.tryNext();
            case "keep" -> x.keep(a);
            case "back" -> x.back(a);
            default -> x.count(a);
        };
    }

    /** One run: a new object and a new model, asked the same. */
    private static final class Run {
        private final Random random;
        private final int run;
        private final NumberedLoops x = new NumberedLoops();
        private final Model model = new Model();
        private final StringBuilder told = new StringBuilder();
        /** A ring that marks and numbers mostly keep to, so that states are not all clashes. */
        private long aim = 0;
        private int calls = 0;

        Run(int run) {
            this.run = run;
            random = new Random(run * 7919L + 17);
        }

        /** If the answer is as due; not, too, if the object may not be asked any more. */
        boolean asks(String call, int a, int b, int c) {
            if (calls == CALLS) {
                return false;
            }
            calls++;
            long due = model.answer(call, a, b, c);
            long got = answer(x, call, a, b, c);
            told.append(' ').append(call).append('(').append(a).append(',').append(b).append(',').append(c).append(')');
            if (due != got) {
                wrong++;
                System.out.println("run " + run + ":" + told + " answered " + got + ", due is " + due);
            }
            return due == got;
        }

        /** Mostly below the limit, now and then just outside, seldom far off. */
        int upTo(int limit) {
            int luck = random.nextInt(40);
            if (luck == 0) {
                return random.nextBoolean() ? -1 : limit;
            }
            if (luck == 1) {
                return random.nextBoolean() ? Integer.MIN_VALUE : Integer.MAX_VALUE;
            }
            return random.nextInt(Math.max(limit, 1));
        }

        boolean newGrid() {
            int w = 1 + random.nextInt(4);
            int h = 1 + random.nextInt(4);
            Model shape = new Model();
            int[] none = new int[w * h];
            Arrays.fill(none, -1);
            shape.become(w, h, none);
            aim = shape.rings().get(random.nextInt(shape.rings().size()));
            int percent = random.nextInt(101);
            int amiss = random.nextInt(3) == 0 ? 10 : 0;
            StringBuilder text = new StringBuilder();
            for (int y = 0; y < h; y++) {
                for (int x = 0; x < w; x++) {
                    int n = 0;
                    for (int s : shape.sidesOfCell(y * w + x)) {
                        n += (int) (aim >> s & 1);
                    }
                    n = random.nextInt(100) < amiss ? random.nextInt(5) : n;
                    text.append(random.nextInt(100) < percent ? (char) ('0' + n) : '.');
                }
                text.append(';');
            }
            spoil(text);
            boolean right = asks("clear", 0, 0, 0);
            for (int i = 0; i < text.length() && right; i++) {
                right = asks("type", text.charAt(i), 0, 0);
            }
            return right && asks("grid", 0, 0, 0);
        }

        /** Blanks come in; in one text of five a letter is lost, doubled, changed. */
        void spoil(StringBuilder text) {
            for (int i = random.nextInt(3) == 0 ? random.nextInt(15) : 0; i > 0; i--) {
                text.insert(random.nextInt(text.length() + 1), ' ');
            }
            int at = random.nextInt(text.length());
            switch (random.nextInt(20)) {
                case 0 -> text.deleteCharAt(at);
                case 1 -> text.insert(at, text.charAt(at));
                case 2 -> text.setCharAt(at, "01234. ;5:/-".charAt(random.nextInt(12)));
                case 3 -> text.setCharAt(at, (char) random.nextInt(256));
                default -> {
                }
            }
        }

        boolean marks() {
            int side = upTo(model.sides());
            int as = upTo(3);
            if (side >= 0 && side < model.sides() && random.nextInt(10) < 7) {
                as = (aim >> side & 1) == 1 ? 1 : 2;
            }
            return asks("marks", side, as, 0);
        }

        boolean asksSomething() {
            int k = random.nextInt(3) == 0 ? upTo(10000) : upTo(model.loops(-1).size() + 2);
            return switch (random.nextInt(30)) {
                case 0, 1, 2, 3, 4, 5 -> marks();
                case 6, 7 -> asks("numbers", upTo(model.cells()), upTo(7) - 1, 0);
                case 8, 9 -> asks("step", 0, 0, 0);
                case 10 -> asks("spreads", 0, 0, 0);
                case 11, 12 -> asks("undo", 0, 0, 0);
                case 13 -> asks("hint", upTo(4), 0, 0) && asks("hint", 0, 0, 0);
                case 14 -> asks("hint", 1, 0, 0) && asks("hint", 2, 0, 0) && asks("hint", 3, 0, 0);
                case 15 -> asks("hinted", 0, 0, 0);
                case 16 -> asks("many", random.nextInt(3) == 0 ? upTo(10001) : upTo(20), 0, 0);
                case 17 -> asks("loop", k, 0, 0);
                case 18 -> asks("forced", upTo(2), 0, 0);
                case 19 -> asks("inside", k, 0, 0);
                case 20, 21 -> asks("numbersThat", upTo(2), 0, 0);
                case 22 -> asks("tryNext", 0, 0, 0);
                case 23 -> asks("keep", upTo(2), 0, 0);
                case 24 -> random.nextInt(3) > 0 || asks("back", upTo(2), 0, 0);
                case 25 -> asks("count", upTo(8), 0, 0);
                case 26 -> asks("number", upTo(model.cells()), 0, 0);
                case 27 -> asks("side", upTo(model.sides()), 0, 0);
                case 28 -> asks("sideOf", upTo(2), upTo(model.points()), upTo(4));
                default -> random.nextInt(4) == 0 ? newGrid() : asks("type", upTo(256), 0, 0);
            };
        }

        /** Behind each call: something of the state. */
        boolean someIsSeen() {
            return asks("count", random.nextInt(8), 0, 0) && asks("side", random.nextInt(model.sides()), 0, 0);
        }

        /** Behind a run: all that can be seen of the state. */
        void allIsSeen() {
            boolean right = true;
            for (int i = 0; i < 8 && right; i++) {
                right = x.count(i) == model.count(i);
            }
            for (int c = 0; c < model.cells() && right; c++) {
                right = x.number(c) == model.answer("number", c, 0, 0);
            }
            for (int s = 0; s < model.sides() && right; s++) {
                right = x.side(s) == model.state.sides[s];
            }
            if (!right) {
                wrong++;
                System.out.println("run " + run + ":" + told + " left another state than is due");
            }
        }

        /**
         * Rules 0 and 1 mostly come first, so that rules 2 and 3 seldom have their say: marks that tell something by
         * the former are followed, those that clash there are taken back, till the latter are all that is left.
         */
        boolean quietens() {
            boolean right = true;
            for (int i = 0; i < 60 && right; i++) {
                Hint h = model.hint();
                right = asks("hint", 0, 0, 0) && asks("hint", 1, 0, 0) && asks("hint", 2, 0, 0)
                    && asks("hinted", 0, 0, 0);
                SEEN[h.kind][h.rule == NONE ? 0 : h.rule]++;
                if (h.kind == 0) {
                    break;
                }
                if (h.kind != 3) {
                    right &= asks("step", 0, 0, 0);
                } else if (h.rule < 2) {
                    int[] around = h.rule == 0 ? model.sidesOfCell(h.place) : model.sidesOfPoint(h.place);
                    int side = around[random.nextInt(4)];
                    right &= side == NONE || asks("marks", side, 0, 0);
                } else {
                    break;
                }
            }
            return right;
        }

        /** Marks that rules 0 and 1 have nothing to say of, right and wrong ones, as many as there can be. */
        boolean marksSparsely(boolean[] in, int amiss) {
            boolean right = true;
            for (int i = 0; i < 60 && right; i++) {
                int s = random.nextInt(model.sides());
                if (model.state.sides[s] == 0) {
                    List<Integer> hands = model.handsOfSide(s);
                    boolean line = in[hands.get(0) + 1] != in[hands.get(1) + 1] ^ random.nextInt(100) < amiss;
                    right = asks("marks", s, line ? 1 : 2, 0);
                    Hint h = model.hint();
                    if (h.kind != 0 && h.rule < 2) {
                        right &= asks("undo", 0, 0, 0);
                    } else {
                        SEEN[h.kind][h.rule == NONE ? 0 : h.rule]++;
                        right &= asks("hint", 0, 0, 0) && asks("hint", 2, 0, 0) && asks("hinted", 0, 0, 0);
                    }
                }
            }
            return right;
        }

        /** Sides between cells that are said to be in or out at random, now and then a wrong one: few points clash. */
        void goQuietly() {
            int w = 4 - random.nextInt(8) / 3;
            int h = 4 - random.nextInt(8) / 3;
            boolean right = asks("clear", 0, 0, 0);
            for (int i = 0; i < h * (w + 1); i++) {
                int sign = random.nextInt(25) == 0 ? '0' + random.nextInt(4) : '.';
                right &= asks("type", i % (w + 1) == w ? ';' : sign, 0, 0);
            }
            right &= asks("grid", 0, 0, 0);
            boolean[] in = new boolean[w * h + 1];
            for (int c = 1; c < in.length; c++) {
                in[c] = random.nextInt(5) == 0;
            }
            int percent = 10 + random.nextInt(50);
            int amiss = random.nextInt(3) * 4;
            if (random.nextBoolean()) {
                right = right && marksSparsely(in, amiss * 3);
                percent = 0;
            }
            for (int s = 0; s < model.sides() && right; s++) {
                List<Integer> hands = model.handsOfSide(s);
                boolean line = in[hands.get(0) + 1] != in[hands.get(1) + 1] ^ random.nextInt(100) < amiss;
                right = random.nextInt(100) >= percent || asks("marks", s, line ? 1 : 2, 0);
            }
            if (right) {
                quietens();
            }
            allIsSeen();
        }

        void go() {
            boolean right = random.nextInt(5) == 0 || newGrid();
            while (right) {
                right = asksSomething() && someIsSeen();
            }
            allIsSeen();
        }
    }

    public static void main(String[] args) {
        int runs = args.length > 0 ? Integer.parseInt(args[0]) : RUNS;
        for (int run = 0; run < runs && wrong < 10; run++) {
            new Run(run).go();
            for (int i = 0; i < 10 && wrong < 10; i++) {
                new Run(RUNS * 10 + run * 10 + i).goQuietly();
            }
        }
        System.out.println("hints by kind and rule: " + Arrays.deepToString(SEEN));
        System.out.println(wrong == 0 ? "class and model answer alike" : wrong + " answers are not as due");
        if (wrong != 0) {
            System.exit(1);
        }
    }
}
