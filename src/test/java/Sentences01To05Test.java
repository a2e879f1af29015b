import java.io.IOException;

/** Promises 1 to 5, a new object and pictures, sentence by sentence. */
public final class Sentences01To05Test {
    private static final int BAD = -1000001, FULL = -1000003, NONE = -1000004, NULL = -1000011;
    private static final String ZEROS = "0".repeat(96);

    public static void main(String[] args) throws IOException {
        Sentences s = new Sentences();
        s.promise(1);
        s.says("Two pictures of nothing.", Sentences01To05Test::newObject);
        s.promise(2);
        s.says("One letter more behind THE TAPE:", Sentences01To05Test::letterBehind);
        s.says("how many it has.", Sentences01To05Test::lettersCounted);
        s.says("BAD: not 32 .. 126;", Sentences01To05Test::letterBad);
        s.says("FULL: 120.", Sentences01To05Test::tapeFull);
        s.promise(3);
        s.says("THE TAPE, which is empty then,", Sentences01To05Test::tapeEmptyThen);
        s.says("tells PICTURES:", Sentences01To05Test::tellsPictures);
        s.says("how many DOTS were told", Sentences01To05Test::dotsTold);
        s.says("(r: all for which it stands).", Sentences01To05Test::dotsToldByRows);
        s.says("A FAULT (all else stays).", Sentences01To05Test::faultLeavesAll);
        s.promise(4);
        s.says("A DOT at a column, a row (-3 .. 14, -3 .. 10)", Sentences01To05Test::dotWithin);
        s.says("of OLD (what 0), NOW (1).", Sentences01To05Test::dotOfWhich);
        s.says("BAD.", Sentences01To05Test::dotBad);
        s.promise(5);
        s.says("0 the KIND of LIKENESS,", Sentences01To05Test::countKind);
        s.says("1 all COSTS of BEST MOVES,", Sentences01To05Test::countCosts);
        s.says("2 LONG,", Sentences01To05Test::countLong);
        s.says("3 LACKS,", Sentences01To05Test::countLacks);
        s.says("4 PAN, 5 what PAN costs,", Sentences01To05Test::countPan);
        s.says("6 BLOCKS of which QUICK is not the BEST (a set),", Sentences01To05Test::countNotQuick);
        s.says("7 what may be UNDONE.", Sentences01To05Test::countUndone);
        s.says("BAD.", Sentences01To05Test::countBad);
        s.finish();
    }

    private static void due(String what, long got, long want) {
        Sentences.due(what, got, want);
    }

    // ---- promise 1

    private static void newObject() {
        MovedBlocks x = new MovedBlocks();
        Sentences.due("OLD", Whole.dots(x, 0), ZEROS);
        Sentences.due("NOW", Whole.dots(x, 1), ZEROS);
        due("kind", x.count(0), 0);
        due("what may be undone", x.count(7), 0);
        due("undo", x.undo(), NONE);
        due("restore", x.restore(), NONE);
        for (int sheet = 0; sheet < 4; sheet++) {
            due("sheet " + sheet, x.drop(sheet), NULL);
        }
        due("the draw", x.seed(1), 1);
        due("an empty tape", x.picture(), -1000020);
        MovedBlocks used = Whole.after(Whole.FULL);
        due("what may be undone of a used one", used.count(7), 8);
        Sentences.due("another object knows nothing of it", Whole.of(Whole.NEW), Whole.of(y -> Whole.after(Whole.FULL)));
    }

    // ---- promise 2

    private static void letterBehind() {
        MovedBlocks x = Dots.told("n123");
        due("first", x.dot(0, 0, 1), 1);
        due("second", x.dot(1, 0, 1), 2);
        due("third", x.dot(2, 0, 1), 3);
        due("none behind", x.dot(3, 0, 1), 0);
    }

    private static void lettersCounted() {
        MovedBlocks x = new MovedBlocks();
        for (int i = 1; i <= 120; i++) {
            due("letters", x.type(i % 2 == 0 ? ' ' : '~'), i);
        }
        x.picture();
        due("letters of the next tape", x.type('o'), 1);
    }

    private static void letterBad() {
        MovedBlocks x = new MovedBlocks();
        due("32", x.type(32), 1);
        due("33", x.type(33), 2);
        due("125", x.type(125), 3);
        due("126", x.type(126), 4);
        int[] bad = {31, 127, 0, -1, 128, 256 + 'o', 65536 + 'o', Integer.MIN_VALUE, Integer.MAX_VALUE};
        for (int letter : bad) {
            Whole.refused("letter " + letter, y -> y.type(letter), BAD);
        }
        Whole.changesNothing("letter 31 behind 120", Whole.TAPE_FULL, y -> y.type(31), BAD);
        Whole.changesNothing("letter 127 behind 120", Whole.TAPE_FULL, y -> y.type(127), BAD);
    }

    private static void tapeFull() {
        MovedBlocks x = new MovedBlocks();
        for (int i = 1; i < 120; i++) {
            x.type(' ');
        }
        due("the 120th", x.type('n'), 120);
        due("the 121st", x.type('1'), FULL);
        due("the 122nd", x.type('2'), FULL);
        due("120 letters tell", x.picture(), 0);
        due("room again", x.type('n'), 1);
        Whole.changesNothing("the 121st", Whole.TAPE_FULL, y -> y.type('6'), FULL);
        Whole.changesNothing("a blank behind 120", Whole.TAPE_FULL, y -> y.type(' '), FULL);
        MovedBlocks y = new MovedBlocks();
        due("all of 120 letters count", Whole.tell(y, " ".repeat(23) + "b" + "4".repeat(95) + "7"), 96);
        due("the last but one", y.dot(10, 7, 0), 4);
        due("the last", y.dot(11, 7, 0), 7);
    }

    // ---- promise 3

    private static void tapeEmptyThen() {
        MovedBlocks x = new MovedBlocks();
        due("told", Whole.tell(x, "n12"), 2);
        due("the first letter behind what was told", x.type('n'), 1);
        due("told anew", x.picture(), 0);
        due("a fault", Whole.tell(x, "n12x"), -1000023);
        due("the first letter behind a fault", x.type('o'), 1);
        due("told behind a fault", x.picture(), 0);
        due("an empty tape", x.picture(), -1000020);
        due("an empty tape once more", x.picture(), -1000020);
        due("the first letter behind an empty tape", x.type('o'), 1);
    }

    private static void tellsPictures() {
        MovedBlocks x = Dots.told("o5", "n6");
        due("OLD", x.dot(0, 0, 0), 5);
        due("NOW", x.dot(0, 0, 1), 6);
        due("both", Whole.tell(x, "b7"), 1);
        due("OLD", x.dot(0, 0, 0), 7);
        due("NOW", x.dot(0, 0, 1), 7);
        due("paint", x.paint(0, 0, 8), 7);
        due("OLD is apart from NOW", x.dot(0, 0, 0), 7);
    }

    private static void dotsTold() {
        for (int n : new int[] {0, 1, 2, 11, 12, 13, 95, 96}) {
            MovedBlocks x = new MovedBlocks();
            due("dots", Whole.tell(x, "b" + "5".repeat(n)), n);
            Sentences.due("OLD of " + n, Whole.dots(x, 0), "5".repeat(n) + "0".repeat(96 - n));
            Sentences.due("NOW of " + n, Whole.dots(x, 1), "5".repeat(n) + "0".repeat(96 - n));
        }
        due("97", Whole.tell(new MovedBlocks(), "b" + "5".repeat(97)), -1000020 - 97);
        due("figures of 0 are told", Whole.tell(new MovedBlocks(), "b000"), 3);
    }

    private static void dotsToldByRows() {
        due("a whole row", Whole.tell(new MovedBlocks(), "nr1"), 12);
        due("all but one of a row", Whole.tell(new MovedBlocks(), "n0r1"), 12);
        due("the last of a row", Whole.tell(new MovedBlocks(), "n00000000000r1"), 12);
        due("a row is due", Whole.tell(new MovedBlocks(), "n000000000000r1"), 24);
        due("seven rows", Whole.tell(new MovedBlocks(), "n" + "r1".repeat(7)), 84);
        due("eight rows", Whole.tell(new MovedBlocks(), "n" + "r1".repeat(8)), 96);
        due("nine rows", Whole.tell(new MovedBlocks(), "n" + "r1".repeat(9)), -1000020 - 17);
        due("the last dot of all", Whole.tell(new MovedBlocks(), "n" + "r1".repeat(7) + "2".repeat(11) + "r3"), 96);
    }

    private static void faultLeavesAll() {
        Whole.Run emptied = x -> {
            Whole.full(x);
            x.picture();
        };
        String[] faults = {"", " ", "x", "ox", "nr", "b" + "5".repeat(97), "n" + "r1".repeat(8) + "r1", "o5b"};
        for (String text : faults) {
            Whole.changesNothing("the fault " + text, emptied, x -> Math.min(-1000020, Whole.tell(x, text)));
            Whole.changesNothing("the fault " + text, Whole.NEW, x -> Math.min(-1000020, Whole.tell(x, text)));
            MovedBlocks x = new MovedBlocks();
            due("a fault is in " + text, Whole.tell(x, text) <= -1000020 ? 1 : 0, 1);
        }
    }

    // ---- promise 4

    private static void dotWithin() {
        int[] drawn = Dots.drawn(1);
        for (int what = 0; what < 2; what++) {
            MovedBlocks x = new MovedBlocks();
            due("told", Dots.tell(x, what == 0 ? 'o' : 'n', drawn), 96);
            for (int row = -3; row <= 10; row++) {
                for (int column = -3; column <= 14; column++) {
                    due("dot " + column + " " + row, x.dot(column, row, what), drawn[Dots.index(column, row)]);
                }
            }
        }
    }

    private static void dotOfWhich() {
        MovedBlocks x = Dots.told("o3", "n4");
        due("OLD", x.dot(0, 0, 0), 3);
        due("NOW", x.dot(0, 0, 1), 4);
    }

    private static void dotBad() {
        Whole.refused("column -4", x -> x.dot(-4, 0, 0), BAD);
        Whole.refused("column 15", x -> x.dot(15, 0, 0), BAD);
        Whole.refused("row -4", x -> x.dot(0, -4, 1), BAD);
        Whole.refused("row 11", x -> x.dot(0, 11, 1), BAD);
        Whole.refused("what -1", x -> x.dot(0, 0, -1), BAD);
        Whole.refused("what 2", x -> x.dot(0, 0, 2), BAD);
        MovedBlocks x = new MovedBlocks();
        for (int far : new int[] {Integer.MIN_VALUE, Integer.MAX_VALUE, 1 << 16, 1 << 8, -(1 << 8)}) {
            due("column " + far, x.dot(far, 0, 0), BAD);
            due("row " + far, x.dot(0, far, 0), BAD);
            due("what " + far, x.dot(0, 0, far), BAD);
        }
        Whole.changesNothing("a dot asked for", Whole.FULL, y -> y.dot(14, 10, 1));
    }

    // ---- promise 5

    private static void countKind() {
        MovedBlocks x = new MovedBlocks();
        due("first", x.count(0), 0);
        for (int kind = 4; kind >= 0; kind--) {
            x.like(kind);
            due("liked", x.count(0), kind);
        }
    }

    private static void countCosts() {
        due("none", new MovedBlocks().count(1), 0);
        MovedBlocks x = Dots.scene(Dots.all(0), Dots.all(9));
        due("by PLAIN all there can be", x.count(1), 96 * 9);
        x.like(1);
        due("by SQUARE all there can be", x.count(1), 96 * 81);
        x.like(2);
        due("by EDGE all there can be", x.count(1), 6 * (12 * 18 + 4 * 9));
        x.like(3);
        due("by DEAR all there can be", x.count(1), 96 * 9);
        x.like(4);
        due("by STEEP all there can be", x.count(1), 96 * 9);
        int[] drawn = Dots.drawn(2);
        MovedBlocks y = Dots.scene(drawn, Dots.moved(drawn, 0, 6, 42, 48, 3, 45));
        due("found again", y.count(1), 0);
        y.like(3);
        due("moves of DEAR cost", y.count(1), 4 * 12 + 2 * 6);
    }

    private static void countLong() {
        due("all as foretold", new MovedBlocks().count(2), 12);
        int[] drawn = Dots.drawn(3);
        MovedBlocks x = Dots.scene(drawn, Dots.moved(drawn, 24, 25, 24, 24, 24, 24));
        // Block 1 is 1 more than foretold, block 2 1 less; block 4 is foretold by 0, 1, 0 in the middle: 0.
        due("two are other", x.count(2), 12 + 2 + 2);
    }

    private static void countLacks() {
        MovedBlocks x = new MovedBlocks();
        due("none", x.count(3), 0);
        x.paint(0, 0, 1);
        due("one", x.count(3), 1);
        x.paint(11, 7, 1);
        due("two", x.count(3), 2);
        due("all", Dots.scene(Dots.all(3), Dots.all(2)).count(3), 96);
        due("all but one", Dots.told("b" + "r3".repeat(8), "n22222222223 2" + "r2".repeat(7)).count(3), 95);
    }

    private static void countPan() {
        due("at first", new MovedBlocks().count(4), 24);
        due("at first it costs", new MovedBlocks().count(5), 0);
        int[] drawn = Dots.drawn(4);
        for (int move : new int[] {0, 6, 42, 48, 3, 21, 27, 45, 24, 17}) {
            MovedBlocks x = Dots.scene(drawn, Dots.moved(drawn, move, move, move, move, move, move));
            due("pan", x.count(4), move);
            due("pan costs", x.count(5), 0);
        }
        due("pan of 9 each", Dots.scene(Dots.all(0), Dots.all(9)).count(5), 864);
    }

    private static void countNotQuick() {
        due("none", new MovedBlocks().count(6), 0);
        int[] old = Dots.drawn(5);
        int[] missed = new int[6];
        for (int block = 0; block < 6; block++) {
            missed[block] = missedByHalves(old, block);
        }
        for (int set = 0; set < 64; set++) {
            int[] moves = new int[6];
            for (int block = 0; block < 6; block++) {
                moves[block] = (set >> block & 1) == 1 ? missed[block] : 24;
            }
            due("set " + set, Dots.scene(old, Dots.moved(old, moves)).count(6), set);
        }
    }

    /** A move that the block is found by, which is too far from twice the move that pictures of half the size tell. */
    private static int missedByHalves(int[] old, int block) {
        for (int move : Dots.ORDER) {
            int half = Dots.halfMove(old, Dots.moved(old, move, move, move, move, move, move), block);
            boolean near = Math.abs(Dots.x(move) - 2 * Dots.x(half)) < 2 && Math.abs(Dots.y(move) - 2 * Dots.y(half)) < 2;
            if (!near) {
                return move;
            }
        }
        due("halves miss a move of block " + block, 0, 1);
        return 24;
    }

    private static void countUndone() {
        MovedBlocks x = new MovedBlocks();
        for (int i = 1; i <= 8; i++) {
            due("known ahead of paint", x.count(7), i - 1);
            x.paint(0, 0, i);
        }
        due("eight", x.count(7), 8);
        x.paint(0, 0, 9);
        due("no more than eight", x.count(7), 8);
        x.undo();
        due("seven", x.count(7), 7);
    }

    private static void countBad() {
        for (int what : new int[] {-1, 8, Integer.MIN_VALUE, Integer.MAX_VALUE}) {
            Whole.refused("count " + what, x -> x.count(what), BAD);
        }
        for (int what = 0; what <= 7; what++) {
            int asked = what;
            due("count " + what + " is not refused", new MovedBlocks().count(what) >= 0 ? 1 : 0, 1);
            Whole.changesNothing("count " + what, Whole.FULL, x -> x.count(asked));
        }
    }
}
