import java.math.BigInteger;
import java.util.ArrayDeque;
import java.util.ArrayList;
import java.util.Comparator;
import java.util.Deque;
import java.util.List;
import java.util.Random;

/** Many runs of drawn calls, each answer compared with a slow model that shares no code with the class. */
public final class ModelTest {
    private static final int RUNS = 200, CALLS = 512;
    private static int wrong = 0;
    private static final int[] CALLED = new int[23];

    public static void main(String[] args) {
        for (int run = 0; run < RUNS && wrong < 20; run++) {
            new Run(new Random(run)).go(run);
        }
        for (int i = 0; i < CALLED.length; i++) {
            if (CALLED[i] == 0) {
                wrong++;
                System.out.println("call " + i + " was never made");
            }
        }
        System.out.println(wrong == 0 ? "all runs are as the model's" : wrong + " answers are not as the model's");
        if (wrong != 0) {
            System.exit(1);
        }
    }

    private static final class Run {
        /** Stands behind the letters of a text that is to be told. */
        private static final char TELL = 0;
        private final Random random;
        private final MovedBlocks x = new MovedBlocks();
        private final Model m = new Model();
        private String waiting = "";
        /** Sheet, lane, first item and number of what was filmed last: looked for elsewhere, moves are seldom found. */
        private int[] filmed = null;

        private Run(Random random) {
            this.random = random;
        }

        private void go(int run) {
            StringBuilder calls = new StringBuilder();
            for (int i = 0; i < CALLS; i++) {
                String[] told = new String[1];
                int[] answers = call(told);
                calls.append(told[0]).append(" -> ").append(answers[0]).append('\n');
                if (answers[0] != answers[1]) {
                    wrong++;
                    System.out.println("run " + run + ", call " + i + ": due is " + answers[1] + "\n" + calls);
                    return;
                }
            }
        }

        private int in(int least, int most) {
            return least + random.nextInt(most - least + 1);
        }

        /** Mostly in its range, at times just beyond it or far off. */
        private int near(int least, int most) {
            int dice = random.nextInt(60);
            if (dice == 0) {
                return least - 1;
            }
            if (dice == 1) {
                return most + 1;
            }
            if (dice == 2) {
                return random.nextInt();
            }
            return in(least, most);
        }

        private String text() {
            StringBuilder text = new StringBuilder();
            text.append("onb".charAt(random.nextInt(3)));
            int most = random.nextInt(3) == 0 ? 9 : 1 + random.nextInt(4);
            int letters = random.nextInt(random.nextBoolean() ? 115 : 30);
            for (int i = 0; i < letters; i++) {
                int dice = random.nextInt(200);
                if (dice == 0) {
                    text.append((char) in(32, 126));
                } else if (dice < 30) {
                    text.append(' ');
                } else if (dice < 50) {
                    text.append('r').append(random.nextInt(most + 1));
                } else {
                    text.append(random.nextInt(most + 1));
                }
            }
            return text.toString();
        }

        private int[] call(String[] told) {
            if (!waiting.isEmpty()) {
                char letter = waiting.charAt(0);
                waiting = waiting.substring(1);
                return letter == TELL ? tellCall(told) : typeCall(letter, told);
            }
            int which = random.nextInt(25);
            if (which >= 23) {
                which = 13;
            }
            CALLED[which]++;
            switch (which) {
                case 0:
                    return typeCall(near(32, 126), told);
                case 1:
                    if (random.nextInt(4) == 0) {
                        waiting = text() + TELL;
                    }
                    return tellCall(told);
                case 2: {
                    int a = near(-3, 14), b = near(-3, 10), c = near(0, 1);
                    told[0] = "dot(" + a + ", " + b + ", " + c + ")";
                    return new int[] {x.dot(a, b, c), m.dot(a, b, c)};
                }
                case 3: {
                    int a = near(0, 7);
                    told[0] = "count(" + a + ")";
                    return new int[] {x.count(a), m.count(a)};
                }
                case 4: {
                    int a = near(0, 11), b = near(0, 7), c = near(0, 9);
                    told[0] = "paint(" + a + ", " + b + ", " + c + ")";
                    return new int[] {x.paint(a, b, c), m.paint(a, b, c)};
                }
                case 5: {
                    int a = near(-3, 3), b = near(-3, 3);
                    told[0] = "shift(" + a + ", " + b + ")";
                    return new int[] {x.shift(a, b), m.shift(a, b)};
                }
                case 6:
                    told[0] = "take()";
                    return new int[] {x.take(), m.take()};
                case 7: {
                    int a = near(0, 4);
                    told[0] = "like(" + a + ")";
                    return new int[] {x.like(a), m.like(a)};
                }
                case 8: {
                    int a = random.nextBoolean() ? near(1, 40) : near(1, 3);
                    told[0] = "noise(" + a + ")";
                    return new int[] {x.noise(a), m.noise(a)};
                }
                case 9:
                    told[0] = "undo()";
                    return new int[] {x.undo(), m.undo()};
                case 10: {
                    int a = random.nextBoolean() ? random.nextInt() : near(0, 9);
                    told[0] = "seed(" + a + ")";
                    return new int[] {x.seed(a), m.seed(a)};
                }
                case 11: {
                    int a = near(0, 5), b = near(0, 48);
                    told[0] = "cost(" + a + ", " + b + ")";
                    return new int[] {x.cost(a, b), m.cost(a, b)};
                }
                case 12: {
                    int a = near(0, 11), b = near(0, 7);
                    told[0] = "rebuilt(" + a + ", " + b + ")";
                    return new int[] {x.rebuilt(a, b), m.rebuilt(a, b)};
                }
                case 13: {
                    int a = near(0, 5), b = near(0, 9);
                    told[0] = "of(" + a + ", " + b + ")";
                    return new int[] {x.of(a, b), m.of(a, b)};
                }
                case 14: {
                    int a = near(0, 6), b = near(0, 10), c = near(0, 1);
                    told[0] = "wrong(" + a + ", " + b + ", " + c + ")";
                    return new int[] {x.wrong(a, b, c), m.wrong(a, b, c)};
                }
                case 15:
                    told[0] = "image()";
                    return new int[] {x.image(), m.image()};
                case 16:
                    told[0] = "restore()";
                    return new int[] {x.restore(), m.restore()};
                default:
                    return sheetCall(which, told);
            }
        }

        private int[] typeCall(int letter, String[] told) {
            told[0] = "type(" + letter + ")";
            return new int[] {x.type(letter), m.type(letter)};
        }

        private int[] tellCall(String[] told) {
            told[0] = "picture()";
            return new int[] {x.picture(), m.picture()};
        }

        private int lane(int sheet) {
            boolean there = sheet >= 0 && sheet < 4 && m.lane(sheet) >= 0;
            return there && random.nextInt(8) != 0 ? m.lane(sheet) : near(0, 3);
        }

        private int[] sheetCall(int which, String[] told) {
            int s = near(0, 3);
            int lane = lane(s);
            switch (which) {
                case 17: {
                    if (filmed != null && random.nextInt(3) != 0) {
                        int n = in(1, filmed[3]);
                        told[0] = "found(" + filmed[0] + ", " + filmed[1] + ", " + filmed[2] + ", " + n + ")";
                        return new int[] {x.found(filmed[0], filmed[1], filmed[2], n),
                            m.found(filmed[0], filmed[1], filmed[2], n)};
                    }
                    int i = near(0, random.nextInt(4) * 6), n = near(1, 6);
                    told[0] = "found(" + s + ", " + lane + ", " + i + ", " + n + ")";
                    return new int[] {x.found(s, lane, i, n), m.found(s, lane, i, n)};
                }
                case 18: {
                    int i = near(0, random.nextInt(4) * 6), n = near(1, 6);
                    told[0] = "film(" + n + ", " + s + ", " + lane + ", " + i + ")";
                    int due = m.film(n, s, lane, i);
                    if (due == n) {
                        filmed = new int[] {s, lane, i, n};
                    }
                    return new int[] {x.film(n, s, lane, i), due};
                }
                case 19: {
                    int l = near(0, 3), n = near(0, 24);
                    told[0] = "sheet(" + s + ", " + l + ", " + n + ")";
                    return new int[] {x.sheet(s, l, n), m.sheet(s, l, n)};
                }
                case 20:
                    if (random.nextInt(3) != 0) {
                        told[0] = "count(0)";
                        return new int[] {x.count(0), m.count(0)};
                    }
                    told[0] = "drop(" + s + ")";
                    return new int[] {x.drop(s), m.drop(s)};
                case 21: {
                    int i = near(0, 23);
                    long v = random.nextBoolean() ? in(0, 48) : in(0, 48) + ((long) in(-3, 3) << 8 * in(1, 5));
                    told[0] = "item(" + s + ", " + lane + ", " + i + ", " + v + ")";
                    return new int[] {x.item(s, lane, i, v), m.item(s, lane, i, v)};
                }
                default: {
                    int to = near(0, 3), i = near(0, 12), j = near(0, 12), n = near(0, 12);
                    told[0] = "copy(" + s + ", " + i + ", " + to + ", " + j + ", " + n + ")";
                    return new int[] {x.copy(s, i, to, j, n), m.copy(s, i, to, j, n)};
                }
            }
        }
    }

    /** OLD, NOW, LIKENESS, THE DRAW; never changed in place. */
    private record State(int[][] old, int[][] now, int kind, long draw) {
    }

    private record Image(State state, List<State> past) {
    }

    private record Tried(int move, int cost, int looks, int leftOut, int skimmed) {
    }

    private static final class Model {
        private State state = new State(new int[8][12], new int[8][12], 0, 1);
        private Deque<State> past = new ArrayDeque<>();
        private Image image = null;
        private String tape = "";
        private final Object[] sheets = new Object[4];
        private final List<Integer> order = new ArrayList<>();

        private Model() {
            for (int m = 0; m < 49; m++) {
                order.add(m);
            }
            order.sort(Comparator.comparingInt((Integer m) -> Math.abs(m % 7 - 3) + Math.abs(m / 7 - 3))
                .thenComparingInt(m -> m));
        }

        private static boolean out(int v, int least, int most) {
            return v < least || v > most;
        }

        private static int at(int[][] picture, int column, int row) {
            while (column < 0) {
                column++;
            }
            while (column >= picture[0].length) {
                column--;
            }
            while (row < 0) {
                row++;
            }
            while (row >= picture.length) {
                row--;
            }
            return picture[row][column];
        }

        private static int[][] cloned(int[][] picture) {
            int[][] made = new int[picture.length][];
            for (int r = 0; r < made.length; r++) {
                made[r] = picture[r].clone();
            }
            return made;
        }

        private static int others(int[][] a, int[][] b) {
            int n = 0;
            for (int r = 0; r < 8; r++) {
                for (int c = 0; c < 12; c++) {
                    n += a[r][c] != b[r][c] ? 1 : 0;
                }
            }
            return n;
        }

        private void doIt(State next) {
            past.addLast(state);
            if (past.size() > 8) {
                past.removeFirst();
            }
            state = next;
        }

        int type(int letter) {
            if (out(letter, 32, 126)) {
                return -1000001;
            }
            if (tape.length() == 120) {
                return -1000003;
            }
            tape += (char) letter;
            return tape.length();
        }

        int picture() {
            String text = tape;
            tape = "";
            int place = 0;
            while (place < text.length() && text.charAt(place) == ' ') {
                place++;
            }
            if (place == text.length() || "onb".indexOf(text.charAt(place)) < 0) {
                return -1000020 - place;
            }
            char target = text.charAt(place++);
            List<Integer> dots = new ArrayList<>();
            while (true) {
                while (place < text.length() && text.charAt(place) == ' ') {
                    place++;
                }
                if (place == text.length()) {
                    break;
                }
                if (dots.size() == 96) {
                    return -1000020 - place;
                }
                boolean whole = text.charAt(place) == 'r';
                if (whole) {
                    place++;
                    while (place < text.length() && text.charAt(place) == ' ') {
                        place++;
                    }
                }
                if (place == text.length() || text.charAt(place) < '0' || text.charAt(place) > '9') {
                    return -1000020 - place;
                }
                int figure = text.charAt(place++) - '0';
                do {
                    dots.add(figure);
                } while (whole && dots.size() % 12 != 0);
            }
            int[][] picture = new int[8][12];
            for (int i = 0; i < dots.size(); i++) {
                picture[i / 12][i % 12] = dots.get(i);
            }
            state = new State(target == 'n' ? state.old : picture, target == 'o' ? state.now : picture,
                state.kind, state.draw);
            past.clear();
            return dots.size();
        }

        int dot(int column, int row, int what) {
            if (out(column, -3, 14) || out(row, -3, 10) || out(what, 0, 1)) {
                return -1000001;
            }
            return at(what == 0 ? state.old : state.now, column, row);
        }

        private static int dotCost(int kind, int a, int b, int c, int r) {
            int d = Math.abs(a - b);
            if (kind == 1) {
                return d * d;
            }
            if (kind == 2 && (c % 4 == 0 || c % 4 == 3 || r % 4 == 0 || r % 4 == 3)) {
                return d + d;
            }
            if (kind == 4) {
                return d > 3 ? 9 : d * d;
            }
            return d;
        }

        private static int price(int kind, int move) {
            return kind == 3 ? 2 * (Math.abs(move % 7 - 3) + Math.abs(move / 7 - 3)) : 0;
        }

        private static int costOf(int[][] old, int[][] now, int kind, int block, int move) {
            int cost = price(kind, move);
            for (int r = block / 3 * 4; r < block / 3 * 4 + 4; r++) {
                for (int c = block % 3 * 4; c < block % 3 * 4 + 4; c++) {
                    cost += dotCost(kind, now[r][c], at(old, c + move % 7 - 3, r + move / 7 - 3), c, r);
                }
            }
            return cost;
        }

        private Tried tryAll(int[][] old, int[][] now, int kind, int block) {
            int best = -1, least = -1, looks = 0, leftOut = 0, skimmed = 0;
            for (int move : order) {
                int cost = price(kind, move), looked = 0, sumNow = 0, sumOld = 0;
                boolean given = best >= 0 && cost >= least;
                for (int i = 0; i < 16; i++) {
                    int c = block % 3 * 4 + i % 4, r = block / 3 * 4 + i / 4;
                    int there = at(old, c + move % 7 - 3, r + move / 7 - 3);
                    sumNow += now[r][c];
                    sumOld += there;
                    if (!given) {
                        looked++;
                        cost += dotCost(kind, now[r][c], there, c, r);
                        given = best >= 0 && cost >= least;
                    }
                }
                looks += looked;
                boolean left = best >= 0 && kind != 1 && kind != 4 && Math.abs(sumNow - sumOld) >= least;
                if (left) {
                    leftOut++;
                } else {
                    skimmed += looked;
                }
                int whole = costOf(old, now, kind, block, move);
                if (best < 0 || whole < least) {
                    best = move;
                    least = whole;
                }
            }
            return new Tried(best, least, looks, leftOut, skimmed);
        }

        private Tried tried(int block) {
            return tryAll(state.old, state.now, state.kind, block);
        }

        private static int[][] halved(int[][] p) {
            int[][] made = new int[4][6];
            for (int r = 0; r < 4; r++) {
                for (int c = 0; c < 6; c++) {
                    made[r][c] = (p[2 * r][2 * c] + p[2 * r][2 * c + 1] + p[2 * r + 1][2 * c] + p[2 * r + 1][2 * c + 1]) / 4;
                }
            }
            return made;
        }

        private int quick(int block) {
            int[][] old = halved(state.old), now = halved(state.now);
            int best = -1, least = 0;
            for (int move : order) {
                int x = move % 7 - 3, y = move / 7 - 3, cost = 0;
                if (out(x, -1, 1) || out(y, -1, 1)) {
                    continue;
                }
                for (int r = block / 3 * 2; r < block / 3 * 2 + 2; r++) {
                    for (int c = block % 3 * 2; c < block % 3 * 2 + 2; c++) {
                        cost += Math.abs(now[r][c] - at(old, c + x, r + y));
                    }
                }
                if (best < 0 || cost < least) {
                    best = move;
                    least = cost;
                }
            }
            int middleX = 2 * (best % 7 - 3), middleY = 2 * (best / 7 - 3), found = -1;
            for (int move : order) {
                int cost = costOf(state.old, state.now, state.kind, block, move);
                boolean near = Math.abs(move % 7 - 3 - middleX) < 2 && Math.abs(move / 7 - 3 - middleY) < 2;
                if (near && (found < 0 || cost < least)) {
                    found = move;
                    least = cost;
                }
            }
            return found;
        }

        private int[] half(int block) {
            int move = tried(block).move, found = -1, least = 0;
            for (int v = -1; v <= 1; v++) {
                for (int h = -1; h <= 1; h++) {
                    int cost = 0;
                    for (int r = block / 3 * 4; r < block / 3 * 4 + 4; r++) {
                        for (int c = block % 3 * 4; c < block % 3 * 4 + 4; c++) {
                            int oc = c + move % 7 - 3, or = r + move / 7 - 3, sum = 0, n = 0;
                            for (int dv = 0; dv <= Math.abs(v); dv++) {
                                for (int dh = 0; dh <= Math.abs(h); dh++) {
                                    sum += at(state.old, oc + dh * h, or + dv * v);
                                    n++;
                                }
                            }
                            cost += Math.abs(state.now[r][c] - sum / n);
                        }
                    }
                    if (found < 0 || cost < least) {
                        found = 3 * (v + 1) + h + 1;
                        least = cost;
                    }
                }
            }
            return new int[] {found, least};
        }

        private int foretold(int block, boolean isX) {
            int column = block % 3, row = block / 3;
            int[][] ways = {{-1, 0}, {0, -1}, {1, -1}};
            List<Integer> parts = new ArrayList<>();
            for (int[] way : ways) {
                int c = column + way[0], r = row + way[1];
                if (!out(c, 0, 2) && !out(r, 0, 1)) {
                    int move = tried(3 * r + c).move;
                    parts.add(isX ? move % 7 - 3 : move / 7 - 3);
                }
            }
            parts.sort(null);
            return parts.isEmpty() ? 0 : parts.get((parts.size() - 1) / 2);
        }

        private static int bits(int e) {
            return e == 0 ? 1 : 1 + 2 * Integer.toBinaryString(Math.abs(e)).length();
        }

        int count(int what) {
            if (out(what, 0, 7)) {
                return -1000001;
            }
            int costs = 0, length = 0, lacks = 0, notQuick = 0;
            for (int b = 0; b < 6; b++) {
                Tried tried = tried(b);
                costs += tried.cost;
                length += bits(tried.move % 7 - 3 - foretold(b, true)) + bits(tried.move / 7 - 3 - foretold(b, false));
                notQuick += quick(b) == tried.move ? 0 : 1 << b;
            }
            for (int i = 0; i < 96; i++) {
                lacks += rebuilt(i % 12, i / 12) == state.now[i / 12][i % 12] ? 0 : 1;
            }
            int pan = -1, least = 0;
            for (int move : order) {
                int cost = 0;
                for (int b = 0; b < 6; b++) {
                    cost += costOf(state.old, state.now, state.kind, b, move);
                }
                if (pan < 0 || cost < least) {
                    pan = move;
                    least = cost;
                }
            }
            return new int[] {state.kind, costs, length, lacks, pan, least, notQuick, past.size()}[what];
        }

        int paint(int column, int row, int v) {
            if (out(column, 0, 11) || out(row, 0, 7) || out(v, 0, 9)) {
                return -1000001;
            }
            int was = state.now[row][column];
            if (was == v) {
                return -1000002;
            }
            int[][] now = cloned(state.now);
            now[row][column] = v;
            doIt(new State(state.old, now, state.kind, state.draw));
            return was;
        }

        int shift(int x, int y) {
            if (out(x, -3, 3) || out(y, -3, 3)) {
                return -1000001;
            }
            int[][] now = new int[8][12];
            for (int r = 0; r < 8; r++) {
                for (int c = 0; c < 12; c++) {
                    now[r][c] = at(state.now, c + x, r + y);
                }
            }
            int others = others(now, state.now);
            doIt(new State(state.old, now, state.kind, state.draw));
            return others;
        }

        int take() {
            int others = others(state.old, state.now);
            doIt(new State(state.now, state.now, state.kind, state.draw));
            return others;
        }

        int like(int kind) {
            if (out(kind, 0, 4)) {
                return -1000001;
            }
            int was = state.kind;
            if (was == kind) {
                return -1000002;
            }
            doIt(new State(state.old, state.now, kind, state.draw));
            return was;
        }

        int noise(int n) {
            if (out(n, 1, 40)) {
                return -1000001;
            }
            for (int i = 0; i < n; i++) {
                BigInteger next = BigInteger.valueOf(state.draw).multiply(BigInteger.valueOf(1103515245))
                    .add(BigInteger.valueOf(12345)).mod(BigInteger.TWO.pow(31));
                int x = next.divide(BigInteger.valueOf(65536)).intValue();
                int[][] now = cloned(state.now);
                now[x % 96 / 12][x % 96 % 12] = x / 96 % 10;
                doIt(new State(state.old, now, state.kind, next.longValue()));
            }
            return count(3);
        }

        int undo() {
            if (past.isEmpty()) {
                return -1000004;
            }
            state = past.removeLast();
            return past.size();
        }

        int seed(int v) {
            if (v < 0) {
                return -1000001;
            }
            int was = (int) state.draw;
            state = new State(state.old, state.now, state.kind, v);
            return was;
        }

        int cost(int block, int move) {
            if (out(block, 0, 5) || out(move, 0, 48)) {
                return -1000001;
            }
            return costOf(state.old, state.now, state.kind, block, move);
        }

        int of(int block, int what) {
            if (out(block, 0, 5) || out(what, 0, 9)) {
                return -1000001;
            }
            Tried tried = tried(block);
            int[] half = half(block);
            return new int[] {tried.move, tried.cost, tried.looks, tried.leftOut, tried.skimmed, quick(block), half[0],
                half[1], foretold(block, true), foretold(block, false)}[what];
        }

        int rebuilt(int column, int row) {
            if (out(column, 0, 11) || out(row, 0, 7)) {
                return -1000001;
            }
            int move = tried(row / 4 * 3 + column / 4).move;
            return at(state.old, column + move % 7 - 3, row + move / 7 - 3);
        }

        int wrong(int n, int c, int what) {
            if (out(n, 0, 6) || out(c, 0, 10) || out(what, 0, 1)) {
                return -1000001;
            }
            BigInteger above = BigInteger.ZERO, below = BigInteger.TEN.pow(n);
            int usual = tried(0).move;
            for (int set = 0; set < 1 << n; set++) {
                int[][] now = cloned(state.now);
                for (int i = 0; i < n; i++) {
                    if ((set & 1 << i) != 0) {
                        now[0][i] = 9 - now[0][i];
                    }
                }
                if (tryAll(state.old, now, state.kind, 0).move != usual) {
                    int k = Integer.bitCount(set);
                    above = above.add(BigInteger.valueOf(c).pow(k).multiply(BigInteger.valueOf(10 - c).pow(n - k)));
                }
            }
            BigInteger g = above.gcd(below);
            return (what == 0 ? above : below).divide(g).intValue();
        }

        int image() {
            image = new Image(state, new ArrayList<>(past));
            return 1;
        }

        int restore() {
            if (image == null) {
                return -1000004;
            }
            state = image.state;
            past = new ArrayDeque<>(image.past);
            return 1;
        }

        int lane(int sheet) {
            Object row = sheets[sheet];
            return row instanceof byte[] ? 0 : row instanceof short[] ? 1 : row instanceof int[] ? 2
                : row instanceof long[] ? 3 : -1;
        }

        private int refused(int sheet, int lane, int i, int n) {
            if (sheets[sheet] == null) {
                return -1000011;
            }
            if (lane(sheet) != lane) {
                return -1000012;
            }
            return i < 0 || (long) i + n > java.lang.reflect.Array.getLength(sheets[sheet]) ? -1000013 : 0;
        }

        private void put(int sheet, int i, long v) {
            switch (lane(sheet)) {
                case 0 -> ((byte[]) sheets[sheet])[i] = (byte) v;
                case 1 -> ((short[]) sheets[sheet])[i] = (short) v;
                case 2 -> ((int[]) sheets[sheet])[i] = (int) v;
                default -> ((long[]) sheets[sheet])[i] = v;
            }
        }

        int found(int sheet, int lane, int i, int n) {
            if (out(sheet, 0, 3) || out(lane, 0, 3) || out(n, 1, 6)) {
                return -1000001;
            }
            int refused = refused(sheet, lane, i, n);
            if (refused != 0) {
                return refused;
            }
            int set = 0;
            for (int kind = 0; kind < 5; kind++) {
                boolean all = true;
                for (int b = 0; b < n; b++) {
                    long move = java.lang.reflect.Array.getLong(sheets[sheet], i + b);
                    all &= move == tryAll(state.old, state.now, kind, b).move;
                }
                set += all ? 1 << kind : 0;
            }
            return set;
        }

        int film(int n, int sheet, int lane, int i) {
            if (out(sheet, 0, 3) || out(lane, 0, 3) || out(n, 1, 6)) {
                return -1000001;
            }
            int refused = refused(sheet, lane, i, n);
            if (refused != 0) {
                return refused;
            }
            for (int b = 0; b < n; b++) {
                put(sheet, i + b, tried(b).move);
            }
            return n;
        }

        int sheet(int sheet, int lane, int n) {
            if (out(sheet, 0, 3) || out(lane, 0, 3) || n > 24) {
                return -1000001;
            }
            try {
                sheets[sheet] = switch (lane) {
                    case 0 -> new byte[n];
                    case 1 -> new short[n];
                    case 2 -> new int[n];
                    default -> new long[n];
                };
            } catch (NegativeArraySizeException e) {
                return -1000014;
            }
            return n;
        }

        int drop(int sheet) {
            if (out(sheet, 0, 3)) {
                return -1000001;
            }
            if (sheets[sheet] == null) {
                return -1000011;
            }
            int n = java.lang.reflect.Array.getLength(sheets[sheet]);
            sheets[sheet] = null;
            return n;
        }

        int item(int sheet, int lane, int i, long v) {
            if (out(sheet, 0, 3) || out(lane, 0, 3)) {
                return -1000001;
            }
            int refused = refused(sheet, lane, i, 1);
            if (refused != 0) {
                return refused;
            }
            put(sheet, i, v);
            return 1;
        }

        int copy(int from, int i, int to, int j, int n) {
            if (out(from, 0, 3) || out(to, 0, 3)) {
                return -1000001;
            }
            try {
                System.arraycopy(sheets[from], i, sheets[to], j, n);
            } catch (NullPointerException e) {
                return -1000011;
            } catch (ArrayStoreException e) {
                return -1000012;
            } catch (IndexOutOfBoundsException e) {
                return -1000013;
            }
            return n;
        }
    }
}
