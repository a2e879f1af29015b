/** Two small pictures, and each block of the one found again in the one ahead of it. */
public final class MovedBlocks {
    public static final int BAD = -1000001, NOT = -1000002, FULL = -1000003, NONE = -1000004;
    public static final int NULL = -1000011, CAST = -1000012, INDEX = -1000013, SIZE = -1000014;

    private static final int FAULT = -1000020;
    private static final int COLUMNS = 12, ROWS = 8, DOTS = 96, DOT_VALUES = 10;
    private static final int BLOCKS = 6, BLOCKS_ACROSS = 3, SIDE = 4, BLOCK_DOTS = 16;
    private static final int REACH = 3, MOVES_ACROSS = 7, MOVES = 49, STILL = 24;
    private static final int SQUARE = 1, EDGE = 2, DEAR = 3, STEEP = 4, KINDS = 5;
    private static final int STEEP_MOST = 9, DEAR_STEP = 2;
    private static final int KNOWN_MOST = 8, TURNS_MOST = 40, TAPE_ROOM = 120;
    private static final int SHEETS = 4, LANES = 4, ITEMS_MOST = 24;
    private static final int WRONG_MOST = 6, OUT_OF = 10;
    private static final int DRAW_BITS = 0x7FFFFFFF;

    /** The dearest move of all blocks together costs 7776. */
    private static final int DEARER_THAN_ALL = 1000000;

    /** All moves by how far they are, then by their numbers. */
    private static final int[] ORDER = {
        24,
        17, 23, 25, 31,
        10, 16, 18, 22, 26, 30, 32, 38,
        3, 9, 11, 15, 19, 21, 27, 29, 33, 37, 39, 45,
        2, 4, 8, 12, 14, 20, 28, 34, 36, 40, 44, 46,
        1, 5, 7, 13, 35, 41, 43, 47,
        0, 6, 42, 48
    };

    private final Story story = new Story();
    private final Story kept = new Story();
    private boolean isKept = false;
    private final Tape tape = new Tape();
    private final Search search = new Search();
    private final Halves halves = new Halves();
    private final Field field = new Field();
    private final Scene spare = new Scene();
    private final Sheet[] sheets = new Sheet[SHEETS];

    public MovedBlocks() {
        for (int i = 0; i < SHEETS; i++) {
            sheets[i] = new Sheet();
        }
    }

    // ---- 1 pictures

    public int type(int letter) {
        if (letter < 32 || letter > 126) {
            return BAD;
        }
        return tape.add(letter) ? tape.size : FULL;
    }

    public int picture() {
        int told = tape.read();
        tape.size = 0;
        if (told < 0) {
            return told;
        }
        if (tape.target != 'n') {
            story.scene.old.become(tape.dots);
        }
        if (tape.target != 'o') {
            story.scene.now.become(tape.dots);
        }
        story.known = 0;
        return told;
    }

    public int dot(int column, int row, int what) {
        boolean inReach = isWithin(column, -REACH, COLUMNS - 1 + REACH) && isWithin(row, -REACH, ROWS - 1 + REACH);
        if (!inReach || !isWithin(what, 0, 1)) {
            return BAD;
        }
        Picture asked = what == 0 ? story.scene.old : story.scene.now;
        return asked.at(column, row);
    }

    public int count(int what) {
        switch (what) {
            case 0:
                return story.scene.kind;
            case 1:
                return allCosts();
            case 2:
                field.fill(story.scene, search);
                return field.length();
            case 3:
                field.fill(story.scene, search);
                return field.lacks(story.scene);
            case 4:
                search.pan(story.scene);
                return search.move;
            case 5:
                search.pan(story.scene);
                return search.cost;
            case 6:
                return blocksNotQuick();
            case 7:
                return story.known;
            default:
                return BAD;
        }
    }

    // ---- what is done

    public int paint(int column, int row, int v) {
        if (!isInPicture(column, row) || !isWithin(v, 0, DOT_VALUES - 1)) {
            return BAD;
        }
        int was = story.scene.now.at(column, row);
        if (was == v) {
            return NOT;
        }
        story.keep();
        story.scene.now.dots[row * COLUMNS + column] = v;
        return was;
    }

    public int shift(int x, int y) {
        if (!isWithin(x, -REACH, REACH) || !isWithin(y, -REACH, REACH)) {
            return BAD;
        }
        story.keep();
        Picture now = story.scene.now;
        spare.now.become(now.dots);
        for (int i = 0; i < DOTS; i++) {
            now.dots[i] = spare.now.at(i % COLUMNS + x, i / COLUMNS + y);
        }
        return now.othersThan(spare.now);
    }

    public int take() {
        story.keep();
        Scene scene = story.scene;
        int others = scene.old.othersThan(scene.now);
        scene.old.become(scene.now.dots);
        return others;
    }

    public int like(int kind) {
        if (!isWithin(kind, 0, KINDS - 1)) {
            return BAD;
        }
        int was = story.scene.kind;
        if (was == kind) {
            return NOT;
        }
        story.keep();
        story.scene.kind = kind;
        return was;
    }

    public int noise(int n) {
        if (!isWithin(n, 1, TURNS_MOST)) {
            return BAD;
        }
        for (int i = 0; i < n; i++) {
            story.keep();
            story.scene.turn();
        }
        field.fill(story.scene, search);
        return field.lacks(story.scene);
    }

    public int undo() {
        if (story.known == 0) {
            return NONE;
        }
        story.goBack();
        return story.known;
    }

    public int seed(int v) {
        if (v < 0) {
            return BAD;
        }
        int was = story.scene.draw;
        story.scene.draw = v;
        return was;
    }

    // ---- 2 looked for

    public int cost(int block, int move) {
        if (!isWithin(block, 0, BLOCKS - 1) || !isWithin(move, 0, MOVES - 1)) {
            return BAD;
        }
        return search.wholeCost(story.scene, block, move);
    }

    public int of(int block, int what) {
        if (!isWithin(block, 0, BLOCKS - 1) || !isWithin(what, 0, 9)) {
            return BAD;
        }
        if (what >= 8) {
            field.fill(story.scene, search);
            return field.foretold(block, what == 8);
        }
        if (what >= 6) {
            search.best(story.scene, block);
            halves.look(story.scene, block, search.move);
            return what == 6 ? halves.found : halves.cost;
        }
        if (what == 5) {
            search.quick(story.scene, block);
            return search.move;
        }
        return searched(block, what);
    }

    public int rebuilt(int column, int row) {
        if (!isInPicture(column, row)) {
            return BAD;
        }
        search.best(story.scene, blockAt(column, row));
        return story.scene.old.at(column + xOf(search.move), row + yOf(search.move));
    }

    public int wrong(int n, int c, int what) {
        if (!isWithin(n, 0, WRONG_MOST) || !isWithin(c, 0, OUT_OF) || !isWithin(what, 0, 1)) {
            return BAD;
        }
        // Block 0 holds only the first four of these dots: the others can't move it.
        int dots = Math.min(n, SIDE);
        int above = oddsAbove(dots, c);
        int below = power(OUT_OF, dots);
        int divisor = commonDivisor(above, below);
        if (divisor < 1) {
            return BAD;
        }
        return (what == 0 ? above : below) / divisor;
    }

    public int image() {
        kept.become(story);
        isKept = true;
        return 1;
    }

    public int restore() {
        if (!isKept) {
            return NONE;
        }
        story.become(kept);
        return 1;
    }

    // ---- 3 sheets

    public int found(int sheet, int lane, int i, int n) {
        if (!isSheet(sheet) || !isLane(lane) || !isWithin(n, 1, BLOCKS)) {
            return BAD;
        }
        int refusal = sheets[sheet].refusal(lane, i, n);
        return refusal != 0 ? refusal : kindsOf(sheets[sheet], i, n);
    }

    public int film(int n, int sheet, int lane, int i) {
        if (!isWithin(n, 1, BLOCKS) || !isSheet(sheet) || !isLane(lane)) {
            return BAD;
        }
        int refusal = sheets[sheet].refusal(lane, i, n);
        if (refusal != 0) {
            return refusal;
        }
        for (int block = 0; block < n; block++) {
            search.best(story.scene, block);
            sheets[sheet].put(i + block, search.move);
        }
        return n;
    }

    public int sheet(int sheet, int lane, int n) {
        if (!isSheet(sheet) || !isLane(lane) || n > ITEMS_MOST) {
            return BAD;
        }
        if (n < 0) {
            return SIZE;
        }
        sheets[sheet].begin(lane, n);
        return n;
    }

    public int drop(int sheet) {
        if (!isSheet(sheet)) {
            return BAD;
        }
        if (!sheets[sheet].isHeld) {
            return NULL;
        }
        sheets[sheet].isHeld = false;
        return sheets[sheet].size;
    }

    public int item(int sheet, int lane, int i, long v) {
        if (!isSheet(sheet) || !isLane(lane)) {
            return BAD;
        }
        int refusal = sheets[sheet].refusal(lane, i, 1);
        if (refusal != 0) {
            return refusal;
        }
        sheets[sheet].put(i, v);
        return 1;
    }

    public int copy(int from, int i, int to, int j, int n) {
        if (!isSheet(from) || !isSheet(to)) {
            return BAD;
        }
        Sheet source = sheets[from];
        Sheet target = sheets[to];
        if (!source.isHeld || !target.isHeld) {
            return NULL;
        }
        if (source.lane != target.lane) {
            return CAST;
        }
        if (!source.spans(i, n) || !target.spans(j, n)) {
            return INDEX;
        }
        System.arraycopy(source.items, i, target.items, j, n);
        return n;
    }

    // ---- what the calls share

    private int allCosts() {
        int costs = 0;
        for (int block = 0; block < BLOCKS; block++) {
            search.best(story.scene, block);
            costs += search.cost;
        }
        return costs;
    }

    private int blocksNotQuick() {
        int set = 0;
        for (int block = 0; block < BLOCKS; block++) {
            search.best(story.scene, block);
            int best = search.move;
            search.quick(story.scene, block);
            if (search.move != best) {
                set |= 1 << block;
            }
        }
        return set;
    }

    private int searched(int block, int what) {
        if (what >= 3) {
            search.skim(story.scene, block);
            return what == 3 ? search.leftOut : search.looks;
        }
        search.best(story.scene, block);
        if (what == 2) {
            return search.looks;
        }
        return what == 0 ? search.move : search.cost;
    }

    /** Of all ways in which dots may be wrong, those that find another move, in parts of 10 to the power of dots. */
    private int oddsAbove(int dots, int c) {
        search.best(story.scene, 0);
        int usual = search.move;
        int above = 0;
        for (int set = 0; set < 1 << dots; set++) {
            spare.become(story.scene);
            int weight = 1;
            for (int i = 0; i < dots; i++) {
                boolean isWrong = (set >> i & 1) == 1;
                weight *= isWrong ? c : OUT_OF - c;
                if (isWrong) {
                    spare.now.dots[i] = DOT_VALUES - 1 - spare.now.dots[i];
                }
            }
            search.best(spare, 0);
            if (search.move != usual) {
                above += weight;
            }
        }
        return above;
    }

    private int kindsOf(Sheet sheet, int i, int n) {
        int set = 0;
        spare.become(story.scene);
        for (int kind = 0; kind < KINDS; kind++) {
            spare.kind = kind;
            boolean areBest = true;
            for (int block = 0; block < n && areBest; block++) {
                search.best(spare, block);
                areBest = sheet.items[i + block] == search.move;
            }
            if (areBest) {
                set |= 1 << kind;
            }
        }
        return set;
    }

    private static int power(int base, int times) {
        int product = 1;
        for (int i = 0; i < times; i++) {
            product *= base;
        }
        return product;
    }

    private static int commonDivisor(int a, int b) {
        for (int i = 0; i < 64 && b != 0; i++) {
            int rest = a % b;
            a = b;
            b = rest;
        }
        return a;
    }

    private static boolean isWithin(int v, int least, int most) {
        return v >= least && v <= most;
    }

    private static boolean isInPicture(int column, int row) {
        return isWithin(column, 0, COLUMNS - 1) && isWithin(row, 0, ROWS - 1);
    }

    private static boolean isSheet(int sheet) {
        return isWithin(sheet, 0, SHEETS - 1);
    }

    private static boolean isLane(int lane) {
        return isWithin(lane, 0, LANES - 1);
    }

    private static int xOf(int move) {
        return move % MOVES_ACROSS - REACH;
    }

    private static int yOf(int move) {
        return move / MOVES_ACROSS - REACH;
    }

    private static int moveBy(int x, int y) {
        return MOVES_ACROSS * (y + REACH) + x + REACH;
    }

    private static int stepsOf(int move) {
        return Math.abs(xOf(move)) + Math.abs(yOf(move));
    }

    private static int firstColumn(int block) {
        return block % BLOCKS_ACROSS * SIDE;
    }

    private static int firstRow(int block) {
        return block / BLOCKS_ACROSS * SIDE;
    }

    private static int blockAt(int column, int row) {
        return row / SIDE * BLOCKS_ACROSS + column / SIDE;
    }

    private static final class Picture {
        private final int[] dots = new int[DOTS];

        private int at(int column, int row) {
            int nearColumn = Math.max(0, Math.min(COLUMNS - 1, column));
            int nearRow = Math.max(0, Math.min(ROWS - 1, row));
            return dots[nearRow * COLUMNS + nearColumn];
        }

        /** A dot of the picture of half the size, which has edges of its own. */
        private int halfAt(int column, int row) {
            int left = 2 * Math.max(0, Math.min(COLUMNS / 2 - 1, column));
            int top = 2 * Math.max(0, Math.min(ROWS / 2 - 1, row));
            int first = top * COLUMNS + left;
            return (dots[first] + dots[first + 1] + dots[first + COLUMNS] + dots[first + COLUMNS + 1]) / 4;
        }

        private int othersThan(Picture other) {
            int others = 0;
            for (int i = 0; i < DOTS; i++) {
                if (dots[i] != other.dots[i]) {
                    others++;
                }
            }
            return others;
        }

        private void become(int[] other) {
            System.arraycopy(other, 0, dots, 0, DOTS);
        }
    }

    /** All that can be undone. */
    private static final class Scene {
        private final Picture old = new Picture();
        private final Picture now = new Picture();
        private int kind = 0;
        private int draw = 1;

        private void become(Scene other) {
            old.become(other.old.dots);
            now.become(other.now.dots);
            kind = other.kind;
            draw = other.draw;
        }

        private void turn() {
            draw = draw * 1103515245 + 12345 & DRAW_BITS;
            int x = draw / 65536;
            now.dots[x % DOTS] = x / DOTS % DOT_VALUES;
        }
    }

    /** The scene that is, and those ahead of it, the oldest first. */
    private static final class Story {
        private final Scene scene = new Scene();
        private final Scene[] past = new Scene[KNOWN_MOST];
        private int known = 0;

        private Story() {
            for (int i = 0; i < KNOWN_MOST; i++) {
                past[i] = new Scene();
            }
        }

        private void keep() {
            if (known == KNOWN_MOST) {
                loseOldest();
            }
            past[known].become(scene);
            known++;
        }

        private void loseOldest() {
            Scene oldest = past[0];
            for (int i = 1; i < KNOWN_MOST; i++) {
                past[i - 1] = past[i];
            }
            past[KNOWN_MOST - 1] = oldest;
            known = KNOWN_MOST - 1;
        }

        private void goBack() {
            if (known > 0) {
                known--;
                scene.become(past[known]);
            }
        }

        private void become(Story other) {
            scene.become(other.scene);
            known = other.known;
            for (int i = 0; i < known; i++) {
                past[i].become(other.past[i]);
            }
        }
    }

    /** Letters typed, and the picture that they tell. */
    private static final class Tape {
        private final int[] letters = new int[TAPE_ROOM];
        private int size = 0;
        private final int[] dots = new int[DOTS];
        private int told = 0;
        private int target = 0;

        private boolean add(int letter) {
            if (size >= TAPE_ROOM) {
                return false;
            }
            letters[size] = letter;
            size++;
            return true;
        }

        /** How many dots are told, or the fault. */
        private int read() {
            target = 0;
            told = 0;
            boolean isRun = false;
            for (int i = 0; i < size; i++) {
                int letter = letters[i];
                if (letter == ' ') {
                    continue;
                }
                if (!canStand(letter, isRun)) {
                    return FAULT - i;
                }
                if (target == 0) {
                    target = letter;
                } else if (letter == 'r') {
                    isRun = true;
                } else {
                    tell(letter - '0', isRun);
                    isRun = false;
                }
            }
            if (target == 0 || isRun) {
                return FAULT - size;
            }
            for (int i = told; i < DOTS; i++) {
                dots[i] = 0;
            }
            return told;
        }

        private boolean canStand(int letter, boolean isRun) {
            if (target == 0) {
                return letter == 'o' || letter == 'n' || letter == 'b';
            }
            boolean isFigure = letter >= '0' && letter <= '9';
            return told < DOTS && (isFigure || letter == 'r' && !isRun);
        }

        private void tell(int figure, boolean isRun) {
            int end = isRun ? (told / COLUMNS + 1) * COLUMNS : told + 1;
            for (int i = told; i < end && i < DOTS; i++) {
                dots[i] = figure;
            }
            told = end;
        }
    }

    /** What the latest search came to: its move, what that costs, dots looked at, moves left out by sums. */
    private static final class Search {
        private int move = STILL;
        private int cost = 0;
        private int looks = 0;
        private int leftOut = 0;

        private void best(Scene scene, int block) {
            tryMoves(scene, block, STILL, REACH, false);
        }

        /** Finds what best finds, for no move left out by sums could have won. */
        private void skim(Scene scene, int block) {
            tryMoves(scene, block, STILL, REACH, true);
        }

        private void quick(Scene scene, int block) {
            int small = smallMove(scene, block);
            tryMoves(scene, block, moveBy(2 * xOf(small), 2 * yOf(small)), 1, false);
        }

        private void pan(Scene scene) {
            cost = DEARER_THAN_ALL;
            for (int i = 0; i < MOVES; i++) {
                int together = 0;
                for (int block = 0; block < BLOCKS; block++) {
                    together += wholeCost(scene, block, ORDER[i]);
                }
                if (together < cost) {
                    cost = together;
                    move = ORDER[i];
                }
            }
        }

        private int wholeCost(Scene scene, int block, int tried) {
            return costBelow(scene, block, tried, DEARER_THAN_ALL);
        }

        private void tryMoves(Scene scene, int block, int middle, int reach, boolean bySums) {
            move = middle;
            cost = DEARER_THAN_ALL;
            looks = 0;
            leftOut = 0;
            for (int i = 0; i < MOVES; i++) {
                int tried = ORDER[i];
                if (!isNear(tried, middle, reach)) {
                    continue;
                }
                if (bySums && sumsApart(scene, block, tried) >= cost) {
                    leftOut++;
                    continue;
                }
                int triedCost = costBelow(scene, block, tried, cost);
                if (triedCost < cost) {
                    cost = triedCost;
                    move = tried;
                }
            }
        }

        /** Ends as soon as the limit is reached: dots only add, so no later one could help. */
        private int costBelow(Scene scene, int block, int tried, int limit) {
            int x = xOf(tried);
            int y = yOf(tried);
            int left = firstColumn(block);
            int top = firstRow(block);
            int sum = scene.kind == DEAR ? DEAR_STEP * stepsOf(tried) : 0;
            for (int i = 0; i < BLOCK_DOTS && sum < limit; i++) {
                int column = left + i % SIDE;
                int row = top + i / SIDE;
                int far = Math.abs(scene.now.at(column, row) - scene.old.at(column + x, row + y));
                sum += dotCost(scene.kind, far, i);
                looks++;
            }
            return sum;
        }

        private static int dotCost(int kind, int far, int place) {
            switch (kind) {
                case SQUARE:
                    return far * far;
                case EDGE:
                    return isAtEdge(place) ? 2 * far : far;
                case STEEP:
                    return Math.min(STEEP_MOST, far * far);
                default:
                    return far;
            }
        }

        private static boolean isAtEdge(int place) {
            int column = place % SIDE;
            int row = place / SIDE;
            return column == 0 || column == SIDE - 1 || row == 0 || row == SIDE - 1;
        }

        private static boolean isNear(int tried, int middle, int reach) {
            return Math.abs(xOf(tried) - xOf(middle)) <= reach && Math.abs(yOf(tried) - yOf(middle)) <= reach;
        }

        /** How far the sums of the block's dots are apart; -1, which is never enough, where sums tell nothing. */
        private static int sumsApart(Scene scene, int block, int tried) {
            if (scene.kind == SQUARE || scene.kind == STEEP) {
                return -1;
            }
            int sum = 0;
            for (int i = 0; i < BLOCK_DOTS; i++) {
                int column = firstColumn(block) + i % SIDE;
                int row = firstRow(block) + i / SIDE;
                sum += scene.now.at(column, row) - scene.old.at(column + xOf(tried), row + yOf(tried));
            }
            return Math.abs(sum);
        }

        private static int smallMove(Scene scene, int block) {
            int least = DEARER_THAN_ALL;
            int found = STILL;
            for (int i = 0; i < MOVES; i++) {
                int tried = ORDER[i];
                if (!isNear(tried, STILL, 1)) {
                    continue;
                }
                int triedCost = smallCost(scene, block, tried);
                if (triedCost < least) {
                    least = triedCost;
                    found = tried;
                }
            }
            return found;
        }

        private static int smallCost(Scene scene, int block, int tried) {
            int sum = 0;
            for (int i = 0; i < BLOCK_DOTS / 4; i++) {
                int column = firstColumn(block) / 2 + i % 2;
                int row = firstRow(block) / 2 + i / 2;
                int there = scene.old.halfAt(column + xOf(tried), row + yOf(tried));
                sum += Math.abs(scene.now.halfAt(column, row) - there);
            }
            return sum;
        }
    }

    /** The half dots around a move that cost least, and what they cost. */
    private static final class Halves {
        private int found = 0;
        private int cost = 0;

        private void look(Scene scene, int block, int move) {
            cost = DEARER_THAN_ALL;
            for (int i = 0; i < 9; i++) {
                int tried = costBy(scene, block, move, i % 3 - 1, i / 3 - 1);
                if (tried < cost) {
                    cost = tried;
                    found = i;
                }
            }
        }

        private static int costBy(Scene scene, int block, int move, int h, int v) {
            int sum = 0;
            for (int i = 0; i < BLOCK_DOTS; i++) {
                int column = firstColumn(block) + i % SIDE;
                int row = firstRow(block) + i / SIDE;
                int there = between(scene.old, column + xOf(move), row + yOf(move), h, v);
                sum += Math.abs(scene.now.at(column, row) - there);
            }
            return sum;
        }

        private static int between(Picture old, int column, int row, int h, int v) {
            int here = old.at(column, row);
            if (h == 0 && v == 0) {
                return here;
            }
            if (h == 0 || v == 0) {
                return (here + old.at(column + h, row + v)) / 2;
            }
            return (here + old.at(column + h, row) + old.at(column, row + v) + old.at(column + h, row + v)) / 4;
        }
    }

    /** The best moves of all blocks. */
    private static final class Field {
        private final int[] moves = new int[BLOCKS];
        private final int[] near = new int[3];

        private void fill(Scene scene, Search search) {
            for (int block = 0; block < BLOCKS; block++) {
                search.best(scene, block);
                moves[block] = search.move;
            }
        }

        private int lacks(Scene scene) {
            int others = 0;
            for (int i = 0; i < DOTS; i++) {
                int column = i % COLUMNS;
                int row = i / COLUMNS;
                int move = moves[blockAt(column, row)];
                if (scene.old.at(column + xOf(move), row + yOf(move)) != scene.now.at(column, row)) {
                    others++;
                }
            }
            return others;
        }

        private int length() {
            int bits = 0;
            for (int block = 0; block < BLOCKS; block++) {
                bits += bitsOf(xOf(moves[block]) - foretold(block, true));
                bits += bitsOf(yOf(moves[block]) - foretold(block, false));
            }
            return bits;
        }

        private int foretold(int block, boolean isX) {
            boolean hasLeft = block % BLOCKS_ACROSS > 0;
            boolean hasAbove = block >= BLOCKS_ACROSS;
            boolean hasRight = block % BLOCKS_ACROSS < BLOCKS_ACROSS - 1;
            int n = 0;
            if (hasLeft) {
                near[n] = partOf(block - 1, isX);
                n++;
            }
            if (hasAbove) {
                near[n] = partOf(block - BLOCKS_ACROSS, isX);
                n++;
            }
            if (hasAbove && hasRight) {
                near[n] = partOf(block - BLOCKS_ACROSS + 1, isX);
                n++;
            }
            return middle(n);
        }

        private int partOf(int block, boolean isX) {
            return isX ? xOf(moves[block]) : yOf(moves[block]);
        }

        private int middle(int n) {
            switch (n) {
                case 0:
                    return 0;
                case 1:
                    return near[0];
                case 2:
                    return Math.min(near[0], near[1]);
                default:
                    int less = Math.min(near[0], near[1]);
                    int more = Math.max(near[0], near[1]);
                    return Math.max(less, Math.min(more, near[2]));
            }
        }

        private static int bitsOf(int e) {
            int size = Math.abs(e);
            int bits = 1;
            for (int i = 0; i < 31; i++) {
                if (size >> i > 0) {
                    bits += 2;
                }
            }
            return bits;
        }
    }

    /** Nothing, or a row of items of one lane. */
    private static final class Sheet {
        private final long[] items = new long[ITEMS_MOST];
        private boolean isHeld = false;
        private int lane = 0;
        private int size = 0;

        private void begin(int newLane, int newSize) {
            isHeld = true;
            lane = newLane;
            size = newSize;
            for (int i = 0; i < ITEMS_MOST; i++) {
                items[i] = 0;
            }
        }

        /** Why n items from i on can't be had as a row of that lane; 0 if they can. */
        private int refusal(int asLane, int i, int n) {
            if (!isHeld) {
                return NULL;
            }
            if (lane != asLane) {
                return CAST;
            }
            return spans(i, n) ? 0 : INDEX;
        }

        private boolean spans(int i, int n) {
            return i >= 0 && n >= 0 && i <= size && n <= size - i;
        }

        private void put(int i, long v) {
            switch (lane) {
                case 0:
                    items[i] = (byte) v;
                    break;
                case 1:
                    items[i] = (short) v;
                    break;
                case 2:
                    items[i] = (int) v;
                    break;
                default:
                    items[i] = v;
                    break;
            }
        }
    }
}
