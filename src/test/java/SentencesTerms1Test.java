import java.io.IOException;

/** The face, the answers below 0, and part 1 of the terms (pictures, moves, kinds), sentence by sentence. */
public final class SentencesTerms1Test {
    private static final int BAD = -1000001, NOT = -1000002, FULL = -1000003, NONE = -1000004;
    private static final int NULL = -1000011, CAST = -1000012, INDEX = -1000013, SIZE = -1000014;

    public static void main(String[] args) throws IOException {
        Sentences s = new Sentences();
        s.partOf("What it is");
        s.says("An object is used for at most 512 calls after it has been made;", SentencesTerms1Test::calls512);
        s.partOf("The public face");
        s.says("public static final int BAD = -1000001, NOT = -1000002, FULL = -1000003, NONE = -1000004, NULL = -1000011, "
            + "CAST = -1000012, INDEX = -1000013, SIZE = -1000014;", SentencesTerms1Test::constants);
        answers(s);
        pictures(s);
        kinds(s);
        s.finish();
    }

    private static void answers(Sentences s) {
        s.section("Terms");
        s.says("Answers below 0, of several the first that a call names,", SentencesTerms1Test::firstNamed);
        s.says("where no other numbers below 0 may be:", SentencesTerms1Test::otherNumbersBelow);
        s.says("BAD -1000001 (a number is not as told, there is no such thing), NOT -1000002 (as told), FULL -1000003, "
            + "NONE -1000004 (as told), CAST -1000012 (of SHEETS another LANE);", SentencesTerms1Test::refusals);
        s.says("what the machine finds: NULL -1000011, INDEX -1000013, SIZE -1000014", SentencesTerms1Test::machineFinds);
        s.says("(NULL, CAST, INDEX, SIZE in this order).", SentencesTerms1Test::machineOrder);
        s.says("What is refused changes nothing, but as told.", SentencesTerms1Test::allRefused);
        s.says("Sets are bits.", SentencesTerms1Test::setsAreBits);
        s.says("What is divided is cut.", SentencesTerms1Test::cut);
    }

    private static void pictures(Sentences s) {
        s.section("Terms 1");
        s.says("A PICTURE has 96 DOTS (0 .. 9), 12 in a row, 8 rows", SentencesTerms1Test::size);
        s.says("(DOT 12 times the row and the column).", SentencesTerms1Test::dotNumbers);
        s.says("There are two: OLD, NOW (all 0 at first).", SentencesTerms1Test::two);
        s.says("A DOT beyond the edge is as the nearest one within.", SentencesTerms1Test::beyondTheEdge);
        s.says("BLOCKS 0 .. 5 of NOW are 4 by 4 DOTS, three side by side, two rows of them.", SentencesTerms1Test::blocks);
        s.says("A MOVE is x, y (-3 .. 3 each), told as 7 times (y and 3), and x and 3 (0 .. 48);",
            SentencesTerms1Test::moves);
        s.says("what a BLOCK is in OLD by a MOVE: the DOTS that are x columns farther right, y rows farther down.",
            SentencesTerms1Test::farther);
        s.says("Their ORDER: by x and y without signs together, then by the number that tells them.",
            SentencesTerms1Test::order);
    }

    private static void kinds(Sentences s) {
        s.says("LIKENESS is of a KIND (0 at first);", SentencesTerms1Test::kindAtFirst);
        s.says("what a BLOCK costs by a MOVE, of all its DOTS together:", SentencesTerms1Test::allDots);
        s.says("0 PLAIN: how far the DOT in NOW is from that in OLD.", () -> even(0));
        s.says("Below it 1 SQUARE: that times itself.", () -> even(1));
        s.says("2 EDGE (below PLAIN): as PLAIN,", () -> even(2));
        s.says("twice of DOTS at the edge of the BLOCK (12 of 16).", SentencesTerms1Test::edges);
        s.says("3 DEAR (below PLAIN): as PLAIN;", () -> even(3));
        s.says("and, at once, ahead of all DOTS, 2 times x and y without signs together.", SentencesTerms1Test::dear);
        s.says("4 STEEP (below SQUARE): as SQUARE;", () -> even(4));
        s.says("but 9 of a DOT at most.", SentencesTerms1Test::steep);
        s.says("PAINTED: a DOT of NOW is another one.", SentencesTerms1Test::painted);
        s.says("SHIFTED by x, y (-3 .. 3): each DOT of NOW is as that was x columns farther right, y rows farther down.",
            SentencesTerms1Test::shifted);
        s.says("TAKEN OVER: OLD becomes NOW (NOW stays).", SentencesTerms1Test::takenOver);
        s.says("LIKED: LIKENESS is of another KIND.", SentencesTerms1Test::liked);
    }

    private static void due(String what, long got, long want) {
        Sentences.due(what, got, want);
    }

    private static void calls512() {
        MovedBlocks x = new MovedBlocks();
        int painted = 0;
        for (int call = 1; call < 510; call++) {
            int next = (painted + 1) % 10;
            due("call " + call, x.paint(0, 0, next), painted);
            painted = next;
        }
        due("call 510", x.dot(0, 0, 1), painted);
        due("call 511", x.count(7), 8);
        due("call 512", x.undo(), 7);
    }

    private static void constants() {
        due("BAD", MovedBlocks.BAD, BAD);
        due("NOT", MovedBlocks.NOT, NOT);
        due("FULL", MovedBlocks.FULL, FULL);
        due("NONE", MovedBlocks.NONE, NONE);
        due("NULL", MovedBlocks.NULL, NULL);
        due("CAST", MovedBlocks.CAST, CAST);
        due("INDEX", MovedBlocks.INDEX, INDEX);
        due("SIZE", MovedBlocks.SIZE, SIZE);
    }

    // ---- answers below 0; in Whole.FULL sheet 0 has 3 bytes, 1 has 8 longs, 2 nothing, 3 no ints

    private static void firstNamed() {
        due("BAD, FULL", Whole.after(Whole.TAPE_FULL).type(127), BAD);
        due("BAD, SIZE", Whole.after(Whole.FULL).sheet(4, 0, -1), BAD);
        due("BAD, NULL", Whole.after(Whole.FULL).found(2, 4, 0, 1), BAD);
        due("BAD, NULL", Whole.after(Whole.FULL).film(7, 2, 0, 0), BAD);
        due("BAD, NULL", Whole.after(Whole.FULL).item(2, -1, 0, 0), BAD);
        due("BAD, NULL", Whole.after(Whole.FULL).copy(2, 0, 4, 0, 1), BAD);
        due("BAD, CAST, INDEX", Whole.after(Whole.FULL).found(0, 1, -1, 0), BAD);
        due("BAD, INDEX", Whole.after(Whole.FULL).film(0, 0, 0, -1), BAD);
        due("BAD, NULL, INDEX", Whole.after(Whole.FULL).copy(-1, -1, 2, -1, -1), BAD);
    }

    private static void otherNumbersBelow() {
        int[] old = Dots.drawn(16);
        for (int x = -3; x <= 3; x++) {
            for (int y = -3; y <= 3; y++) {
                int move = Dots.move(x, y);
                MovedBlocks b = Dots.scene(old, Dots.moved(old, move, move, move, move, move, move));
                due("x foretold", b.of(1, 8), x);
                due("y foretold", b.of(1, 9), y);
            }
        }
    }

    private static void refusals() {
        due("a number is not as told", new MovedBlocks().noise(41), -1000001);
        due("there is no such thing", new MovedBlocks().cost(6, 0), -1000001);
        due("it is so", new MovedBlocks().like(0), -1000002);
        due("full", Whole.after(Whole.TAPE_FULL).type('1'), -1000003);
        due("no image", new MovedBlocks().restore(), -1000004);
        due("none to be undone", new MovedBlocks().undo(), -1000004);
        due("another lane", Whole.after(Whole.FULL).item(0, 1, 0, 0), -1000012);
    }

    private static void machineFinds() {
        due("nothing", new MovedBlocks().drop(0), -1000011);
        due("beyond the row", Whole.after(Whole.FULL).item(0, 0, 3, 0), -1000013);
        due("ahead of the row", Whole.after(Whole.FULL).item(0, 0, -1, 0), -1000013);
        due("less than no items", new MovedBlocks().sheet(0, 0, -1), -1000014);
    }

    private static void machineOrder() {
        due("NULL, INDEX", new MovedBlocks().found(0, 0, -1, 1), NULL);
        due("NULL, INDEX", new MovedBlocks().film(1, 0, 0, -1), NULL);
        due("NULL, INDEX", new MovedBlocks().item(0, 0, -1, 0), NULL);
        due("NULL, INDEX", new MovedBlocks().copy(0, -1, 0, -1, -1), NULL);
        due("CAST, INDEX", Whole.after(Whole.FULL).found(0, 1, 3, 1), CAST);
        due("CAST, INDEX", Whole.after(Whole.FULL).film(6, 0, 1, -1), CAST);
        due("CAST, INDEX", Whole.after(Whole.FULL).item(3, 0, 0, 0), CAST);
        due("CAST, INDEX", Whole.after(Whole.FULL).copy(0, 4, 1, 9, 1), CAST);
    }

    private static void allRefused() {
        int[] answers = {BAD, FULL, BAD, BAD, BAD, NOT, BAD, BAD, NOT, BAD, BAD, BAD, BAD, BAD, BAD, BAD, NULL, CAST, INDEX,
            BAD, NULL, CAST, INDEX, BAD, SIZE, BAD, NULL, BAD, NULL, CAST, INDEX, BAD, NULL, CAST, INDEX};
        int[] got = refuse(Whole.after(Whole.TAPE_FULL));
        due("refused calls", got.length, answers.length);
        for (int i = 0; i < answers.length; i++) {
            due("answer " + i, got[i], answers[i]);
        }
        Whole.changesNothing("all refused calls", Whole.TAPE_FULL, x -> refuse(x).length);
        MovedBlocks x = Whole.after(Whole.FULL);
        due("a fault", x.picture(), -1000023);
        due("empties the tape, as told", x.type('o'), 1);
    }

    private static int[] refuse(MovedBlocks x) {
        return new int[] {x.type(31), x.type(32), x.dot(15, 0, 0), x.count(8), x.paint(0, 0, 10), x.paint(9, 1, 0),
            x.shift(4, 0), x.like(5), x.like(3), x.noise(41), x.seed(-1), x.cost(6, 0), x.of(0, 10), x.rebuilt(0, 8),
            x.wrong(7, 0, 0), x.found(0, 0, 0, 7), x.found(2, 0, 0, 1), x.found(0, 1, 0, 1), x.found(0, 0, 3, 1),
            x.film(7, 0, 0, 0), x.film(1, 2, 0, 0), x.film(1, 0, 1, 0), x.film(1, 0, 0, 3), x.sheet(0, 0, 25),
            x.sheet(0, 0, -1), x.drop(4), x.drop(2), x.item(0, 4, 0, 0), x.item(2, 0, 0, 0), x.item(0, 1, 0, 0),
            x.item(0, 0, 3, 0), x.copy(4, 0, 0, 0, 1), x.copy(2, 0, 0, 0, 1), x.copy(0, 0, 1, 0, 1),
            x.copy(0, 0, 0, 1, 3)};
    }

    private static void setsAreBits() {
        MovedBlocks x = new MovedBlocks();
        x.sheet(0, 0, 1);
        due("no kind", x.found(0, 0, 0, 1), 0);
        x.item(0, 0, 0, 24);
        due("kinds 0 to 4", x.found(0, 0, 0, 1), 1 + 2 + 4 + 8 + 16);
        // By DEAR a dot of 1 does not pay for a move of 1, by all others it does.
        MovedBlocks y = Dots.told("o r0 r0 0 1", "n r0 r0 1");
        y.sheet(0, 0, 1);
        y.item(0, 0, 0, 25);
        due("all but DEAR", y.found(0, 0, 0, 1), 1 + 2 + 4 + 16);
        y.item(0, 0, 0, 24);
        due("DEAR", y.found(0, 0, 0, 1), 8);
    }

    private static void cut() {
        // Block 1 is all 0; a half dot of 3 by 4 in OLD is 0 and QUICK stays near, one of 4 by 4 is 1.
        due("3 by 4 is 0", Dots.told("or0 00000 3").of(1, 5), 24);
        due("4 by 4 is 1", Dots.told("or0 00000 4").of(1, 5), 26);
        String ones = "b" + "r1".repeat(8);
        due("7 by 4 is 1", Dots.told(ones, "or1 11111 4 r1 r1r1r1r1r1r1").of(1, 5), 24);
        due("8 by 4 is 2", Dots.told(ones, "or1 11111 5 r1 r1r1r1r1r1r1").of(1, 5), 26);
        MovedBlocks x = new MovedBlocks();
        x.seed(0);
        due("12345 by 65536 is 0: dot 0 becomes 0", x.noise(1), 0);
    }

    // ---- part 1: pictures, blocks, moves

    private static void size() {
        MovedBlocks x = new MovedBlocks();
        int[] drawn = Dots.drawn(17);
        due("96 dots", Dots.tell(x, 'n', drawn), 96);
        for (int row = 0; row < 8; row++) {
            for (int column = 0; column < 12; column++) {
                due("dot " + column + " " + row, x.dot(column, row, 1), drawn[12 * row + column]);
            }
        }
        MovedBlocks y = new MovedBlocks();
        due("-1 is no dot", y.paint(0, 0, -1), BAD);
        due("9 is one", y.paint(0, 0, 9), 0);
        due("10 is no dot", y.paint(0, 0, 10), BAD);
        due("0 is one", y.paint(0, 0, 0), 9);
    }

    private static void dotNumbers() {
        MovedBlocks x = new MovedBlocks();
        due("the 14th dot", Whole.tell(x, "n" + "0".repeat(13) + "8"), 14);
        due("is at column 1, row 1", x.dot(1, 1, 1), 8);
        // By a draw of 1 the first turn is 16838: dot 38 becomes 175 left over by 10.
        MovedBlocks y = new MovedBlocks();
        y.noise(1);
        due("dot 38 is at column 2, row 3", y.dot(2, 3, 1), 5);
    }

    private static void two() {
        MovedBlocks x = new MovedBlocks();
        Sentences.due("OLD", Whole.dots(x, 0), "0".repeat(96));
        Sentences.due("NOW", Whole.dots(x, 1), "0".repeat(96));
        x.paint(1, 1, 1);
        due("OLD is not painted", x.dot(1, 1, 0), 0);
        due("a third", x.dot(0, 0, 2), BAD);
    }

    private static void beyondTheEdge() {
        int[] old = Dots.drawn(18);
        MovedBlocks x = new MovedBlocks();
        due("told", Dots.tell(x, 'o', old), 96);
        for (int far = 1; far <= 3; far++) {
            for (int row = 0; row < 8; row++) {
                due("left", x.dot(-far, row, 0), old[12 * row]);
                due("right", x.dot(11 + far, row, 0), old[12 * row + 11]);
            }
            for (int column = 0; column < 12; column++) {
                due("above", x.dot(column, -far, 0), old[column]);
                due("below", x.dot(column, 7 + far, 0), old[84 + column]);
            }
            due("a corner", x.dot(-far, -far, 0), old[0]);
            due("a corner", x.dot(11 + far, -far, 0), old[11]);
            due("a corner", x.dot(-far, 7 + far, 0), old[84]);
            due("a corner", x.dot(11 + far, 7 + far, 0), old[95]);
        }
        // NOW is 0: a block costs the sum of its dots in OLD.
        due("block 0, up and left", x.cost(0, 0), 16 * old[0]);
        due("block 2, up and right", x.cost(2, 6), 16 * old[11]);
        due("block 3, down and left", x.cost(3, 42), 16 * old[84]);
        due("block 5, down and right", x.cost(5, 48), 16 * old[95]);
    }

    private static void blocks() {
        for (int block = 0; block < 6; block++) {
            int found = 0;
            for (int i = 0; i < 96; i++) {
                MovedBlocks x = new MovedBlocks();
                x.paint(i % 12, i / 12, 1);
                boolean within = i / 12 / 4 * 3 + i % 12 / 4 == block;
                due("dot " + i + " of block " + block, x.cost(block, 24), within ? 1 : 0);
                found += x.cost(block, 24);
            }
            due("dots of block " + block, found, 16);
        }
        due("no block ahead of 0", new MovedBlocks().cost(-1, 24), BAD);
        due("no block 6", new MovedBlocks().cost(6, 24), BAD);
    }

    private static void moves() {
        int[] old = Dots.drawn(19);
        for (int x = -3; x <= 3; x++) {
            for (int y = -3; y <= 3; y++) {
                int move = 7 * (y + 3) + x + 3;
                MovedBlocks b = new MovedBlocks();
                due("told", Dots.tell(b, 'b', old), 96);
                b.shift(x, y);
                due("a picture shifted by " + x + " " + y, b.count(4), move);
                due("costs nothing", b.count(5), 0);
            }
        }
        due("ahead of the first move", new MovedBlocks().cost(0, -1), BAD);
        due("behind the last one", new MovedBlocks().cost(0, 49), BAD);
    }

    private static void farther() {
        // OLD has a 9 at column 6, row 3, NOW has one at column 5, row 2: 1 farther right, 1 farther down.
        MovedBlocks x = Dots.told("o r0 r0 r0 000000 9", "n r0 r0 00000 9");
        due("by 1, 1", x.cost(1, 32), 0);
        for (int move = 0; move < 49; move++) {
            // The 9 of OLD is in the block unless it is moved beyond: columns 4 to 7, rows 0 to 3 of the block.
            int column = 6 - Dots.x(move), row = 3 - Dots.y(move);
            boolean within = column >= 4 && column <= 7 && row >= 0 && row <= 3;
            due("by " + move, x.cost(1, move), move == 32 ? 0 : within ? 18 : 9);
        }
    }

    /** Each move against the next one in order: as good as it, the first is the best; as soon as it costs more, the next. */
    private static void order() {
        for (int i = 0; i + 1 < 49; i++) {
            tie(Dots.ORDER[i], Dots.ORDER[i + 1]);
        }
    }

    private static void tie(int first, int next) {
        for (int seed = 0; seed < 50; seed++) {
            for (int block = 0; block < 6; block++) {
                int[] old = alike(seed, block, first, next);
                int[] now = Dots.moved(old, first, first, first, first, first, first);
                int dearer = seenByFirst(block, first, next);
                if (dearer < 0 || freeMove(old, now, block, 0) != first || freeMove(old, now, block, 1) != next) {
                    continue;
                }
                int[] other = old.clone();
                other[dearer] += other[dearer] == 9 ? -1 : 1;
                if (freeMove(other, now, block, 0) != next) {
                    continue;
                }
                due(first + " as good as " + next, Dots.scene(old, now).of(block, 0), first);
                due(first + " dearer than " + next, Dots.scene(other, now).of(block, 0), next);
                return;
            }
        }
        due(first + " and " + next + " can be alike", 0, 1);
    }

    /** OLD in which the block is the same by both moves. */
    private static int[] alike(int seed, int block, int first, int next) {
        int[] old = Dots.drawn(seed);
        for (int times = 0; times < 64; times++) {
            for (int i = 0; i < 16; i++) {
                int a = seen(block, i, first), b = seen(block, i, next);
                int least = Math.min(old[a], old[b]);
                old[a] = least;
                old[b] = least;
            }
        }
        return old;
    }

    private static int seen(int block, int place, int move) {
        return Dots.index(Dots.column(block, place) + Dots.x(move), Dots.row(block, place) + Dots.y(move));
    }

    /** A dot of OLD that the block sees by the first move alone; -1 if there is none. */
    private static int seenByFirst(int block, int first, int next) {
        for (int i = 0; i < 16; i++) {
            boolean byNext = false;
            for (int k = 0; k < 16; k++) {
                byNext |= seen(block, k, next) == seen(block, i, first);
            }
            if (!byNext) {
                return seen(block, i, first);
            }
        }
        return -1;
    }

    /** Of the moves by which the block is the same, that which is so many behind the first in order; -1 if none is. */
    private static int freeMove(int[] old, int[] now, int block, int behind) {
        int left = behind;
        for (int move : Dots.ORDER) {
            boolean same = true;
            for (int i = 0; i < 16; i++) {
                same &= now[seen(block, i, 24)] == old[seen(block, i, move)];
            }
            if (same && left == 0) {
                return move;
            }
            left -= same ? 1 : 0;
        }
        return -1;
    }

    // ---- part 1: kinds, what is done

    private static void kindAtFirst() {
        MovedBlocks x = new MovedBlocks();
        due("at first", x.count(0), 0);
        due("0 is so", x.like(0), NOT);
        x.paint(0, 0, 3);
        due("PLAIN", x.cost(0, 24), 3);
    }

    private static void allDots() {
        MovedBlocks x = new MovedBlocks();
        int cost = 0;
        for (int i = 0; i < 16; i++) {
            x.paint(i % 4, i / 4, 1 + i % 9);
            cost += 1 + i % 9;
            due("dots up to " + i, x.cost(0, 24), cost);
        }
        due("of its own alone", x.cost(1, 24), 0);
    }

    /** Even pictures, by all pairs of dots: each dot costs the same. */
    private static void even(int kind) {
        for (int a = 0; a <= 9; a++) {
            for (int b = 0; b <= 9; b++) {
                MovedBlocks x = Dots.told("o" + ("r" + a).repeat(8), "n" + ("r" + b).repeat(8));
                x.like(kind);
                int far = Math.abs(a - b);
                int[] due = {16 * far, 16 * far * far, 12 * 2 * far + 4 * far, 16 * far, 16 * Math.min(9, far * far)};
                due(a + " and " + b, x.cost(4, 24), due[kind]);
            }
        }
    }

    private static void edges() {
        int twice = 0;
        for (int block = 0; block < 6; block++) {
            for (int i = 0; i < 16; i++) {
                MovedBlocks x = new MovedBlocks();
                x.like(2);
                x.paint(Dots.column(block, i), Dots.row(block, i), 9);
                boolean inner = i == 5 || i == 6 || i == 9 || i == 10;
                due("place " + i + " of " + block, x.cost(block, 24), inner ? 9 : 18);
                twice += x.cost(block, 24) == 18 ? 1 : 0;
            }
        }
        due("twice", twice, 6 * 12);
        // The edge is that of the block, not that of the picture, nor of what it is in OLD.
        MovedBlocks x = Dots.told("o" + "r1".repeat(8));
        x.like(2);
        due("by a move", x.cost(0, 0), 28);
    }

    private static void dear() {
        MovedBlocks x = new MovedBlocks();
        x.like(3);
        for (int move = 0; move < 49; move++) {
            due("by " + move, x.cost(2, move), 2 * (Math.abs(move % 7 - 3) + Math.abs(move / 7 - 3)));
        }
        due("not at all", x.cost(2, 24), 0);
        due("most", x.cost(2, 0), 12);
        x.paint(8, 0, 5);
        due("with its dots", x.cost(2, 25), 2 + 5);
        due("ahead of all dots: none is looked at by moves that cost 6 and more, one of each by others",
            x.of(2, 2), 16 + 4 + 8);
    }

    private static void steep() {
        int[] due = {0, 1, 4, 9, 9, 9, 9, 9, 9, 9};
        for (int far = 0; far <= 9; far++) {
            MovedBlocks x = new MovedBlocks();
            x.like(4);
            x.paint(0, 0, far);
            due("far by " + far, x.cost(0, 24), due[far]);
            MovedBlocks y = Dots.told("o" + far);
            y.like(4);
            due("less by " + far, y.cost(0, 24), due[far]);
        }
    }

    private static void painted() {
        MovedBlocks x = new MovedBlocks();
        x.paint(7, 6, 5);
        Sentences.due("NOW", Whole.dots(x, 1), "0".repeat(79) + "5" + "0".repeat(16));
        Sentences.due("OLD", Whole.dots(x, 0), "0".repeat(96));
    }

    private static void shifted() {
        MovedBlocks x = new MovedBlocks();
        x.paint(5, 4, 7);
        x.shift(2, 1);
        due("2 farther right, 1 farther down", x.dot(3, 3, 1), 7);
        due("where it was", x.dot(5, 4, 1), 0);
        x.shift(-3, -3);
        due("3 farther left, 3 farther up", x.dot(6, 6, 1), 7);
        x.shift(-3, -1);
        x.shift(-3, 0);
        due("beyond 11 it is gone but for the edge", x.dot(11, 7, 1), 0);
        MovedBlocks y = new MovedBlocks();
        y.paint(0, 0, 4);
        y.shift(-3, -3);
        for (int i = 0; i < 96; i++) {
            due("the corner fills " + i, y.dot(i % 12, i / 12, 1), i % 12 <= 3 && i / 12 <= 3 ? 4 : 0);
        }
    }

    private static void takenOver() {
        int[] now = Dots.drawn(20);
        MovedBlocks x = new MovedBlocks();
        due("told", Dots.tell(x, 'n', now), 96);
        x.take();
        for (int i = 0; i < 96; i++) {
            due("OLD " + i, x.dot(i % 12, i / 12, 0), now[i]);
            due("NOW " + i, x.dot(i % 12, i / 12, 1), now[i]);
        }
    }

    private static void liked() {
        MovedBlocks x = new MovedBlocks();
        x.paint(0, 0, 5);
        int[] due = {5, 25, 10, 5, 9};
        for (int kind = 4; kind >= 0; kind--) {
            x.like(kind);
            due("by " + kind, x.cost(0, 24), due[kind]);
        }
    }
}
