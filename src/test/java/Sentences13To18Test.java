import java.io.IOException;

/** Promises 13 to 18, what is looked for, sentence by sentence. */
public final class Sentences13To18Test {
    private static final int BAD = -1000001, NONE = -1000004;
    private static final int LEAST = Integer.MIN_VALUE, MOST = Integer.MAX_VALUE;

    public static void main(String[] args) throws IOException {
        Sentences s = new Sentences();
        s.promise(13);
        s.says("What a BLOCK costs by a MOVE.", Sentences13To18Test::costs);
        s.says("BAD.", Sentences13To18Test::costBad);
        s.promise(14);
        s.says("Of a BLOCK: 0 its BEST MOVE,", Sentences13To18Test::bestMove);
        s.says("1 COST,", Sentences13To18Test::bestCost);
        s.says("2 LOOKS,", Sentences13To18Test::looks);
        s.says("3 LEFT OUT,", Sentences13To18Test::leftOut);
        s.says("4 SKIMMED,", Sentences13To18Test::skimmed);
        s.says("5 QUICK (the MOVE),", Sentences13To18Test::quick);
        s.says("6 HALF, 7 what HALF costs,", Sentences13To18Test::half);
        s.says("8, 9 x, y of what is FORETOLD.", Sentences13To18Test::foretold);
        s.says("BAD.", Sentences13To18Test::ofBad);
        s.promise(15);
        s.says("A DOT of NOW as it is REBUILT.", Sentences13To18Test::rebuilt);
        s.says("BAD: columns 0 .. 11, rows 0 .. 7.", Sentences13To18Test::rebuiltBad);
        s.promise(16);
        s.says("WRONG: above (what 0), below (1).", Sentences13To18Test::wrong);
        s.says("BAD.", Sentences13To18Test::wrongBad);
        s.promise(17);
        s.says("All but SHEETS, THE TAPE is kept", Sentences13To18Test::keptButSheetsAndTape);
        s.says("as an IMAGE: 1.", Sentences13To18Test::image);
        s.promise(18);
        s.says("All is as it was then: 1.", Sentences13To18Test::restored);
        s.says("NONE: there is none.", Sentences13To18Test::restoreNone);
        s.finish();
    }

    private static void due(String what, long got, long want) {
        Sentences.due(what, got, want);
    }

    // ---- promise 13

    private static void costs() {
        int[] old = Dots.drawn(7), now = Dots.drawn(8);
        for (int block = 0; block < 6; block++) {
            MovedBlocks x = Dots.scene(old, now);
            for (int move = 0; move < 49; move++) {
                int cost = 0;
                for (int i = 0; i < 16; i++) {
                    int c = Dots.column(block, i), r = Dots.row(block, i);
                    cost += Math.abs(now[Dots.index(c, r)] - old[Dots.index(c + Dots.x(move), r + Dots.y(move))]);
                }
                due("block " + block + " by " + move, x.cost(block, move), cost);
            }
        }
        due("least", new MovedBlocks().cost(0, 0), 0);
        due("most", Dots.scene(Dots.all(9), Dots.all(0)).cost(5, 48), 144);
    }

    private static void costBad() {
        for (int block : new int[] {-1, 6, LEAST, MOST}) {
            Whole.refused("block " + block, x -> x.cost(block, 0), BAD);
        }
        for (int move : new int[] {-1, 49, LEAST, MOST}) {
            Whole.refused("move " + move, x -> x.cost(0, move), BAD);
        }
        due("the last block, the last move", new MovedBlocks().cost(5, 48), 0);
        due("the first block, the first move", new MovedBlocks().cost(0, 0), 0);
        Whole.changesNothing("a cost asked for", Whole.FULL, x -> x.cost(5, 48));
    }

    // ---- promise 14

    private static void bestMove() {
        int[] old = Dots.drawn(9);
        for (int first = 0; first < 49; first++) {
            int[] moves = new int[6];
            for (int block = 0; block < 6; block++) {
                moves[block] = (first + 8 * block) % 49;
            }
            MovedBlocks x = Dots.scene(old, Dots.moved(old, moves));
            for (int block = 0; block < 6; block++) {
                due("best of " + block, x.of(block, 0), moves[block]);
                due("it costs", x.of(block, 1), 0);
            }
        }
    }

    private static void bestCost() {
        MovedBlocks x = Dots.scene(Dots.all(0), Dots.all(9));
        int[] most = {144, 1296, 12 * 18 + 4 * 9, 144, 144};
        for (int kind = 0; kind < 5; kind++) {
            x.like(kind);
            for (int block = 0; block < 6; block++) {
                due("most by " + kind, x.of(block, 1), most[kind]);
            }
        }
        MovedBlocks y = new MovedBlocks();
        due("none", y.of(0, 1), 0);
        y.paint(0, 0, 1);
        due("one", y.of(0, 1), 1);
        due("none of another block", y.of(1, 1), 0);
    }

    private static void looks() {
        due("as few as can be", new MovedBlocks().of(5, 2), 16);
        MovedBlocks x = new MovedBlocks();
        x.paint(0, 0, 1);
        due("one dot of each other move", x.of(0, 2), 16 + 48);
        MovedBlocks y = new MovedBlocks();
        y.paint(3, 3, 1);
        due("as many as can be", y.of(0, 2), 49 * 16);
    }

    private static void leftOut() {
        due("all but the first", new MovedBlocks().of(5, 3), 48);
        MovedBlocks x = new MovedBlocks();
        x.like(1);
        due("none", x.of(5, 3), 0);
    }

    private static void skimmed() {
        due("as few as can be", new MovedBlocks().of(5, 4), 16);
        MovedBlocks y = new MovedBlocks();
        y.paint(3, 3, 1);
        due("all but the first are left out", y.of(0, 4), 16);
        y.like(1);
        due("as many as can be", y.of(0, 4), 49 * 16);
    }

    /** Pictures of half the size tell all moves of two columns or rows, and so all that are one from these. */
    private static void quick() {
        int[] old = Dots.drawn(10);
        int found = 0;
        for (int move = 0; move < 49; move++) {
            int[] now = Dots.moved(old, move, move, move, move, move, move);
            MovedBlocks x = Dots.scene(old, now);
            for (int block = 0; block < 6; block++) {
                int half = Dots.halfMove(old, now, block);
                int middle = Dots.move(2 * Dots.x(half), 2 * Dots.y(half));
                int best = Dots.bestIn(x, block, middle, 1);
                due("quick of " + block, x.of(block, 5), best);
                found += best == move ? 1 : 0;
            }
        }
        due("many are found", found > 49 ? 1 : 0, 1);
        due("at first", new MovedBlocks().of(5, 5), 24);
    }

    private static void half() {
        MovedBlocks x = new MovedBlocks();
        due("the first of like ones", x.of(0, 6), 0);
        due("it costs", x.of(0, 7), 0);
        MovedBlocks most = Dots.scene(Dots.all(9), Dots.all(0));
        due("the first of like ones", most.of(5, 6), 0);
        due("most", most.of(5, 7), 144);
    }

    private static void foretold() {
        int[] old = Dots.drawn(11);
        int least = Dots.move(-3, -3), most = Dots.move(3, 3);
        MovedBlocks x = Dots.scene(old, Dots.moved(old, least, most, least, most, least, most));
        int[] due = {0, -3, 3, -3, 3, -3};
        for (int block = 0; block < 6; block++) {
            due("x of " + block, x.of(block, 8), due[block]);
            due("y of " + block, x.of(block, 9), due[block]);
        }
        MovedBlocks y = Dots.scene(old, Dots.moved(old, Dots.move(-3, 3), Dots.move(-3, 3), 24, 24, 24, 24));
        due("x", y.of(1, 8), -3);
        due("y", y.of(1, 9), 3);
    }

    private static void ofBad() {
        for (int block : new int[] {-1, 6, LEAST, MOST}) {
            Whole.refused("block " + block, x -> x.of(block, 0), BAD);
        }
        for (int what : new int[] {-1, 10, LEAST, MOST}) {
            Whole.refused("what " + what, x -> x.of(0, what), BAD);
        }
        for (int what = 0; what <= 9; what++) {
            int asked = what;
            due("what " + what + " of the first", new MovedBlocks().of(0, what) >= 0 ? 1 : 0, 1);
            due("what " + what + " of the last", new MovedBlocks().of(5, what) >= 0 ? 1 : 0, 1);
            Whole.changesNothing("what " + what, Whole.FULL, x -> x.of(5, asked));
        }
    }

    // ---- promise 15

    private static void rebuilt() {
        int[] old = Dots.drawn(12);
        int[] moves = {0, 3, 6, 42, 45, 48};
        int[] now = Dots.moved(old, moves);
        MovedBlocks x = Dots.scene(old, now);
        for (int i = 0; i < 96; i++) {
            due("dot " + i, x.rebuilt(i % 12, i / 12), now[i]);
        }
        due("paint", x.paint(0, 0, 9 - now[0]), now[0]);
        due("as it is found in OLD", x.rebuilt(0, 0), now[0]);
        MovedBlocks y = Dots.scene(Dots.all(3), Dots.all(8));
        due("from OLD, however unlike", y.rebuilt(11, 7), 3);
    }

    private static void rebuiltBad() {
        for (int column : new int[] {-1, 12, LEAST, MOST}) {
            Whole.refused("column " + column, x -> x.rebuilt(column, 0), BAD);
        }
        for (int row : new int[] {-1, 8, LEAST, MOST}) {
            Whole.refused("row " + row, x -> x.rebuilt(0, row), BAD);
        }
        MovedBlocks x = Dots.told("b" + "r6".repeat(8));
        for (int column = 0; column <= 11; column += 11) {
            for (int row = 0; row <= 7; row += 7) {
                due("corner " + column + " " + row, x.rebuilt(column, row), 6);
            }
        }
        Whole.changesNothing("a dot rebuilt", Whole.FULL, y -> y.rebuilt(11, 7));
    }

    // ---- promise 16

    private static void wrong() {
        MovedBlocks x = Dots.told("o r0 r0 r0 000 9");
        due("above", x.wrong(1, 4, 0), 2);
        due("below", x.wrong(1, 4, 1), 5);
        due("above, never", x.wrong(0, 0, 0), 0);
        due("below, never", x.wrong(0, 0, 1), 1);
        due("above, surely", x.wrong(6, 10, 0), 1);
        due("below, surely", x.wrong(6, 10, 1), 1);
    }

    private static void wrongBad() {
        for (int n : new int[] {-1, 7, LEAST, MOST}) {
            Whole.refused("n " + n, x -> x.wrong(n, 0, 0), BAD);
        }
        for (int c : new int[] {-1, 11, LEAST, MOST}) {
            Whole.refused("c " + c, x -> x.wrong(0, c, 0), BAD);
        }
        for (int what : new int[] {-1, 2, LEAST, MOST}) {
            Whole.refused("what " + what, x -> x.wrong(0, 0, what), BAD);
        }
        MovedBlocks x = new MovedBlocks();
        for (int n = 0; n <= 6; n++) {
            for (int c = 0; c <= 10; c++) {
                due("above of " + n + " " + c, x.wrong(n, c, 0), 0);
                due("below of " + n + " " + c, x.wrong(n, c, 1), 1);
            }
        }
        Whole.changesNothing("odds asked for", Whole.FULL, y -> y.wrong(6, 5, 0));
    }

    // ---- promises 17, 18

    private static void changeSheetsAndTape(MovedBlocks x) {
        x.drop(0);
        x.sheet(2, 1, 5);
        x.item(2, 1, 4, 24);
        x.item(1, 3, 0, 0);
        x.type('5');
    }

    private static void changeScene(MovedBlocks x) {
        x.paint(0, 0, 9 - x.dot(0, 0, 1));
        x.shift(2, 2);
        x.like(2);
        x.take();
        x.noise(9);
        x.undo();
        x.undo();
        x.seed(31);
    }

    private static void keptButSheetsAndTape() {
        Whole.Run late = x -> {
            Whole.full(x);
            x.image();
            changeSheetsAndTape(x);
        };
        Whole.changesNothing("restore", late, x -> {
            changeScene(x);
            return x.restore();
        }, 1);
        MovedBlocks x = new MovedBlocks();
        x.sheet(0, 2, 7);
        x.type('n');
        x.image();
        x.drop(0);
        x.type('3');
        x.restore();
        due("the sheet is not back", x.drop(0), -1000011);
        due("the tape is as it was since", x.picture(), 1);
        due("3 was told", x.dot(0, 0, 1), 3);
    }

    private static void image() {
        MovedBlocks x = new MovedBlocks();
        due("image", x.image(), 1);
        due("image again", x.image(), 1);
        x.paint(0, 0, 5);
        due("image of another", x.image(), 1);
        x.paint(0, 0, 6);
        x.restore();
        due("the latest image counts", x.dot(0, 0, 1), 5);
        Whole.Run kept = y -> {
            Whole.full(y);
            y.image();
        };
        Whole.changesNothing("an image of the same", kept, MovedBlocks::image, 1);
    }

    private static void restored() {
        Whole.Run empty = MovedBlocks::image;
        Whole.Run full = x -> {
            Whole.full(x);
            x.picture();
            x.image();
        };
        for (Whole.Run run : new Whole.Run[] {empty, full}) {
            Whole.changesNothing("restore at once", run, MovedBlocks::restore, 1);
            Whole.changesNothing("restore", run, x -> {
                changeScene(x);
                return x.restore();
            }, 1);
            Whole.changesNothing("restore of told pictures", run, x -> {
                Whole.tell(x, "b r9 8");
                x.noise(40);
                return x.restore();
            }, 1);
            Whole.changesNothing("restore twice", run, x -> {
                changeScene(x);
                x.restore();
                changeScene(x);
                return x.restore();
            }, 1);
        }
    }

    private static void restoreNone() {
        Whole.changesNothing("restore at first", Whole.NEW, MovedBlocks::restore, NONE);
        Whole.Run noImage = x -> {
            Whole.tell(x, "o12 r3");
            x.noise(12);
            x.like(4);
            x.sheet(1, 1, 1);
            x.type('n');
        };
        Whole.changesNothing("restore without an image", noImage, MovedBlocks::restore, NONE);
    }
}
