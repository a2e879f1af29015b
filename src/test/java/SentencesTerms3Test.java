import java.io.IOException;

/** Part 3 of the terms, what is found, undone, drawn, told, and sheets, sentence by sentence. */
public final class SentencesTerms3Test {
    private static final int BAD = -1000001, NONE = -1000004, NULL = -1000011, CAST = -1000012, INDEX = -1000013;
    private static final int FAULT = -1000020;
    private static final String ZEROS = "0".repeat(96);

    public static void main(String[] args) throws IOException {
        Sentences s = new Sentences();
        s.section("Terms 3");
        found(s);
        undone(s);
        noise(s);
        texts(s);
        sheets(s);
        s.finish();
    }

    private static void found(Sentences s) {
        s.says("FOUND: a row tells MOVES of BLOCKS 0, 1, .. (n of them, 1 .. 6):", SentencesTerms3Test::rowOfMoves);
        s.says("KINDS (a set) of LIKENESS by which they are the BEST.", SentencesTerms3Test::kindsOfRow);
    }

    private static void undone(Sentences s) {
        s.says("UNDONE: the latest of what is PAINTED,", () -> undoes(x -> x.paint(5, 5, 9 - x.dot(5, 5, 1))));
        s.says("SHIFTED,", () -> undoes(x -> x.shift(-3, 2)));
        s.says("TAKEN OVER,", () -> undoes(MovedBlocks::take));
        s.says("LIKED,", () -> undoes(x -> x.like(4)));
        s.says("a turn of NOISE, is as it had not been", () -> undoes(x -> x.noise(1)));
        s.says("(8 are known, older ones lost):", SentencesTerms3Test::eightKnown);
        s.says("PICTURES, LIKENESS, THE DRAW are as ahead of it, whatever was told since;",
            SentencesTerms3Test::toldSince);
        s.says("PICTURES told leave nothing to be UNDONE.", SentencesTerms3Test::nothingToUndo);
    }

    private static void noise(Sentences s) {
        s.says("NOISE by a seed: THE DRAW is a number of 31 bits", SentencesTerms3Test::drawOf31Bits);
        s.says("(1 at first);", SentencesTerms3Test::drawAtFirst);
        s.says("for each turn it becomes the lowest 31 bits of itself times 1103515245 and 12345 more:",
            SentencesTerms3Test::drawTurns);
        s.says("x is it by 65536 (cut):", SentencesTerms3Test::drawCut);
        s.says("the DOT of NOW that x is, left over by 96, becomes what x by 96 is, left over by 10.",
            SentencesTerms3Test::drawnDot);
    }

    private static void texts(Sentences s) {
        s.says("PICTURES are told by a TEXT: o, n or b (OLD, NOW, both the same),", SentencesTerms3Test::target);
        s.says("then 0 to 96 DOTS", SentencesTerms3Test::dots0To96);
        s.says("(figures; those not told are 0),", SentencesTerms3Test::figures);
        s.says("each perhaps behind a letter r (the next figure stands for all that are left in its row,",
            SentencesTerms3Test::restOfRow);
        s.says("or for a whole one, if a row is due).", SentencesTerms3Test::wholeRow);
        s.says("FAULTS: -1000020 less the place of the first letter (behind blanks) that can't stand there",
            SentencesTerms3Test::faults);
        s.says("(the end: how many there are);", SentencesTerms3Test::faultAtEnd);
        s.says("blanks count for nothing.", SentencesTerms3Test::blanks);
        s.says("The other PICTURE, LIKENESS, THE DRAW stay.", SentencesTerms3Test::others);
    }

    private static void sheets(Sentences s) {
        s.onlySays("Ahead of the calls `type`, `picture`, `dot`, `count` the interface says: ---- 1 pictures.");
        s.onlySays("Ahead of the calls `paint`, `shift`, `take`, `like`, `noise`, `undo`, `seed` the interface says: "
            + "---- what is done.");
        s.onlySays("Ahead of the calls `cost`, `of`, `rebuilt`, `wrong`, `image`, `restore` the interface says: "
            + "---- 2 looked for.");
        s.onlySays("Ahead of the calls `found`, `film`, `sheet`, `drop`, `item`, `copy` the interface says: ----");
        s.says("3 sheets 0 .. 3:", SentencesTerms3Test::fourSheets);
        s.says("nothing (at first),", SentencesTerms3Test::nothingAtFirst);
        s.says("or a row of a LANE: 0 bytes, 1 shorts, 2 ints, 3 longs,", SentencesTerms3Test::lanes);
        s.says("of 0 to 24 items.", SentencesTerms3Test::items0To24);
    }

    private static void due(String what, long got, long want) {
        Sentences.due(what, got, want);
    }

    // ---- FOUND

    private static void rowOfMoves() {
        for (int move = 0; move < 49; move++) {
            MovedBlocks x = new MovedBlocks();
            x.sheet(0, 2, 1);
            Whole.findBy(x, move);
            for (int item = -2; item <= 50; item++) {
                x.item(0, 2, 0, item);
                due(item + " where " + move + " is best", x.found(0, 2, 0, 1), item == move ? 31 : 0);
            }
        }
        int[] old = Dots.drawn(61);
        int[] moves = {24, 1, 6, 42, 48, 25};
        MovedBlocks x = Dots.scene(old, Dots.moved(old, moves));
        x.sheet(0, 1, 6);
        for (int n = 1; n <= 6; n++) {
            due("item " + n + " tells no best yet", x.found(0, 1, 0, n), 0);
            x.item(0, 1, n - 1, moves[n - 1]);
            due(n + " blocks", x.found(0, 1, 0, n), 31);
        }
        due("0 blocks", x.found(0, 1, 0, 0), BAD);
        due("7 blocks", x.found(0, 1, 0, 7), BAD);
    }

    /** For each kind a picture whose best by it is the best by no other, and all sets against what each kind tells. */
    private static void kindsOfRow() {
        int alone = 0;
        for (int seed = 0; seed < 400; seed++) {
            MovedBlocks x = Dots.scene(Dots.drawn(seed), Dots.drawn(seed + 1000));
            int[] best = new int[5];
            for (int kind = 4; kind >= 0; kind--) {
                x.like(kind);
                best[kind] = x.of(0, 0);
            }
            x.sheet(0, 0, 1);
            for (int kind = 0; kind < 5; kind++) {
                int set = 0;
                for (int other = 0; other < 5; other++) {
                    set |= best[other] == best[kind] ? 1 << other : 0;
                }
                x.item(0, 0, 0, best[kind]);
                due("kinds of " + best[kind], x.found(0, 0, 0, 1), set);
                alone |= set == 1 << kind ? set : 0;
            }
            due("the kind stays", x.count(0), 0);
        }
        due("each kind was alone once", alone, 31);
    }

    // ---- UNDONE

    /** Done and undone at first, and where something is known and the draw, the kind are other ones. */
    private static void undoes(Whole.Call call) {
        Whole.changesNothing("done and undone at first", Whole.NEW, x -> {
            call.on(x);
            return x.undo();
        }, 0);
        Whole.Run some = x -> {
            Whole.full(x);
            x.undo();
        };
        Whole.changesNothing("done and undone", some, x -> {
            call.on(x);
            return x.undo();
        }, 7);
    }

    private static void eightKnown() {
        for (int n = 7; n <= 9; n++) {
            MovedBlocks x = new MovedBlocks();
            for (int i = 1; i <= n; i++) {
                x.paint(0, 0, i);
            }
            due("known of " + n, x.count(7), Math.min(8, n));
            int back = 0;
            for (int i = 0; i < 8 && x.undo() >= 0; i++) {
                back++;
            }
            due("undone of " + n, back, Math.min(8, n));
            due("the dot of " + n, x.dot(0, 0, 1), n == 9 ? 1 : 0);
            due("no more", x.undo(), NONE);
        }
        MovedBlocks x = new MovedBlocks();
        x.paint(0, 0, 1);
        x.shift(1, 0);
        x.take();
        x.like(1);
        x.noise(4);
        due("of all kinds", x.count(7), 8);
        x.like(2);
        due("one is lost", x.count(7), 8);
        for (int i = 7; i >= 0; i--) {
            due("undone", x.undo(), i);
        }
        due("the oldest stays", x.dot(0, 0, 1), 1);
        x.like(3);
        due("known again", x.count(7), 1);
        due("undone again", x.undo(), 0);
        due("as it was", x.dot(0, 0, 1), 1);
    }

    private static void toldSince() {
        MovedBlocks x = new MovedBlocks();
        x.seed(5);
        x.paint(0, 0, 1);
        x.seed(6);
        x.undo();
        due("the draw is as ahead of it", x.seed(1), 5);
        MovedBlocks y = new MovedBlocks();
        y.seed(5);
        y.like(2);
        y.image();
        y.sheet(0, 0, 3);
        y.type('n');
        y.seed(6);
        due("undone", y.undo(), 0);
        due("the kind", y.count(0), 0);
        due("the draw", y.seed(1), 5);
        due("the sheet is as told since", y.drop(0), 3);
        due("the tape is as told since", y.picture(), 0);
        due("the image is as told since", y.restore(), 1);
        due("its kind", y.count(0), 2);
        due("its draw", y.seed(1), 5);
        due("what it may undo", y.undo(), 0);
        MovedBlocks z = new MovedBlocks();
        z.noise(1);
        z.seed(7);
        z.noise(1);
        z.undo();
        due("the draw that was told", z.seed(8), 7);
        z.undo();
        due("the first draw", z.seed(8), 1);
    }

    private static void nothingToUndo() {
        for (String text : new String[] {"o", "n", "b", "o1", "nr5"}) {
            MovedBlocks x = Whole.after(Whole.FULL);
            x.picture();
            due("a fault leaves them", x.count(7), 8);
            due("told", Math.min(0, Whole.tell(x, text)), 0);
            due("what may be undone after " + text, x.count(7), 0);
            due("undo", x.undo(), NONE);
        }
        MovedBlocks x = new MovedBlocks();
        x.paint(0, 0, 5);
        x.image();
        Whole.tell(x, "b");
        x.restore();
        due("the image has its own", x.count(7), 1);
    }

    // ---- NOISE

    private static void drawOf31Bits() {
        MovedBlocks x = new MovedBlocks();
        due("seed", x.seed(Integer.MAX_VALUE), 1);
        due("31 bits", x.seed(0), Integer.MAX_VALUE);
        due("none below 0", x.seed(-1), BAD);
        for (int i = 0; i < 100; i++) {
            x.noise(1);
            int draw = x.seed(0);
            due("a turn stays within 31 bits", draw < 0 ? 1 : 0, 0);
            x.seed(draw);
        }
    }

    private static void drawAtFirst() {
        due("at first", new MovedBlocks().seed(9), 1);
        MovedBlocks x = new MovedBlocks();
        x.noise(1);
        due("one turn of 1", x.seed(0), 1103527590);
    }

    private static void drawTurns() {
        // 0: 12345. 1: 1103515245 and 12345. 2: twice, less 2 to the power of 31. The most: 2^31 less 1103515245, more.
        long[][] draws = {{0, 12345}, {1, 1103527590}, {2, 2 * 1103515245L + 12345 - (1L << 31)},
            {Integer.MAX_VALUE, (1L << 31) - 1103515245 + 12345}, {1 << 30, (1L << 30) + 12345},
            {1103527590, 377401575}, {377401575, 662824084}};
        for (long[] draw : draws) {
            MovedBlocks x = new MovedBlocks();
            x.seed((int) draw[0]);
            x.noise(1);
            due("a turn of " + draw[0], x.seed(0), draw[1]);
        }
        MovedBlocks x = new MovedBlocks();
        x.noise(3);
        due("three turns", x.seed(0), 662824084);
    }

    private static void drawCut() {
        // The least and the most draw by which x is 96, so that dot 0 becomes 1, and those just beyond.
        long[] edges = {96 * 65536L - 1, 96 * 65536L, 97 * 65536L - 1, 97 * 65536L};
        String[] due = {ZEROS, "1" + ZEROS.substring(1), "1" + ZEROS.substring(1), "01" + ZEROS.substring(2)};
        for (int i = 0; i < edges.length; i++) {
            Sentences.due("a turn to " + edges[i], Whole.dots(after(edges[i]), 1), due[i]);
        }
    }

    /** An object whose one turn came to that draw. */
    private static MovedBlocks after(long draw) {
        long mask = (1L << 31) - 1, back = 1, factor = 1103515245;
        // Each step doubles the bits in which factor times back is 1; the first one is right, for both are odd.
        for (int i = 0; i < 5; i++) {
            back = back * (2 - factor * back) & mask;
        }
        MovedBlocks x = new MovedBlocks();
        x.seed((int) ((draw - 12345) * back & mask));
        x.noise(1);
        due("the turn came to it", x.seed(0), draw);
        return x;
    }

    private static void drawnDot() {
        int[][] turns = {{0, 0, 0}, {95, 95, 0}, {96, 0, 1}, {96 + 95, 95, 1}, {959, 95, 9}, {960, 0, 0}, {961, 1, 0},
            {1919, 95, 9}, {1920, 0, 0}, {32767, 31, 1}, {32700, 60, 0}};
        for (int[] turn : turns) {
            MovedBlocks x = after(turn[0] * 65536L + 777);
            String due = ZEROS.substring(0, turn[1]) + turn[2] + ZEROS.substring(turn[1] + 1);
            Sentences.due("NOW by " + turn[0], Whole.dots(x, 1), due);
            Sentences.due("OLD by " + turn[0], Whole.dots(x, 0), ZEROS);
        }
    }

    // ---- texts

    private static void dueTold(String text, int told, String dots) {
        MovedBlocks x = new MovedBlocks();
        due("dots of " + text, Whole.tell(x, text), told);
        Sentences.due("NOW of " + text, Whole.dots(x, 1), dots + "0".repeat(96 - dots.length()));
    }

    private static void dueFault(String text, int place) {
        Whole.changesNothing("the fault in " + text, Whole.NEW, x -> Whole.tell(x, text), FAULT - place);
    }

    private static void target() {
        for (char letter = 32; letter < 127; letter++) {
            MovedBlocks x = Dots.told("b1");
            int told = Whole.tell(x, letter + "6");
            boolean known = letter == 'o' || letter == 'n' || letter == 'b';
            due("told by " + letter, told, known ? 1 : letter == ' ' ? FAULT - 1 : FAULT);
            due("OLD by " + letter, x.dot(0, 0, 0), letter == 'o' || letter == 'b' ? 6 : 1);
            due("NOW by " + letter, x.dot(0, 0, 1), letter == 'n' || letter == 'b' ? 6 : 1);
        }
    }

    private static void dots0To96() {
        dueTold("n", 0, "");
        dueTold("n" + "7".repeat(95), 95, "7".repeat(95));
        dueTold("n" + "7".repeat(96), 96, "7".repeat(96));
        dueFault("n" + "7".repeat(97), 97);
        dueFault("n" + "7".repeat(96) + "r7", 97);
        dueFault("n" + "7".repeat(96) + "x", 97);
    }

    private static void figures() {
        dueTold("n0123456789", 10, "0123456789");
        for (char letter = 33; letter < 127; letter++) {
            boolean known = letter >= '0' && letter <= '9';
            MovedBlocks x = Dots.told("n55");
            int told = Whole.tell(x, "n3" + letter);
            due("told by " + letter, told, known ? 2 : letter == 'r' ? FAULT - 3 : FAULT - 2);
            due("the second by " + letter, x.dot(1, 0, 1), known ? letter - '0' : 5);
        }
        MovedBlocks x = Dots.told("n" + "9".repeat(96), "n4");
        Sentences.due("those not told are 0", Whole.dots(x, 1), "4" + ZEROS.substring(1));
    }

    private static void restOfRow() {
        for (int ahead = 0; ahead < 12; ahead++) {
            String text = "123456789012".substring(0, ahead);
            dueTold("n" + text + "r7", 12, text + "7".repeat(12 - ahead));
            dueTold("nr4" + text + "r7", 24, "4".repeat(12) + text + "7".repeat(12 - ahead));
        }
        dueTold("n12r34", 13, "123333333333" + "4");
        dueTold("nr0", 12, "");
        dueFault("nrr1", 2);
        dueFault("nrx", 2);
    }

    private static void wholeRow() {
        dueTold("n" + "1".repeat(11) + "r2", 12, "1".repeat(11) + "2");
        dueTold("n" + "1".repeat(12) + "r2", 24, "1".repeat(12) + "2".repeat(12));
        dueTold("n" + "1".repeat(13) + "r2", 24, "1".repeat(13) + "2".repeat(11));
        dueTold("n" + "r1r2r3r4r5r6r7r8", 96, rows("12345678"));
        dueTold("n" + "r1r2r3r4r5r6r7", 84, rows("1234567"));
        dueFault("n" + "r1r2r3r4r5r6r7r8r9", 17);
        dueFault("n" + "r1r2r3r4r5r6r7r89", 17);
    }

    private static String rows(String figures) {
        StringBuilder dots = new StringBuilder();
        for (int i = 0; i < figures.length(); i++) {
            dots.append(figures.substring(i, i + 1).repeat(12));
        }
        return dots.toString();
    }

    private static void faults() {
        dueFault("x", 0);
        dueFault("1", 0);
        dueFault("r1", 0);
        dueFault("O1", 0);
        dueFault(" x", 1);
        dueFault("   x  ", 3);
        dueFault("nn", 1);
        dueFault("no", 1);
        dueFault("n1 b", 3);
        dueFault("n1x2y", 2);
        dueFault("n   -1", 4);
        dueFault("nr r1", 3);
        dueFault("n" + "1".repeat(96) + "  1", 99);
        dueFault("n" + "1".repeat(118) + "x", 97);
        dueFault(" ".repeat(119) + "x", 119);
        dueFault("n" + "r1".repeat(8) + " ".repeat(102) + "5", 119);
    }

    private static void faultAtEnd() {
        dueFault("", 0);
        dueFault(" ", 1);
        dueFault("     ", 5);
        dueFault(" ".repeat(120), 120);
        dueFault("nr", 2);
        dueFault("n1r", 3);
        dueFault("n1r  ", 5);
        dueFault("n" + " ".repeat(118) + "r", 120);
        dueTold("n1", 1, "1");
        dueTold("n1  ", 1, "1");
    }

    private static void blanks() {
        dueTold("   n", 0, "");
        dueTold("n   ", 0, "");
        dueTold(" n 1 2 r 3 ", 12, "12" + "3".repeat(10));
        dueTold(" ".repeat(22) + "n" + "1".repeat(96) + " ", 96, "1".repeat(96));
        dueTold("n" + " 1".repeat(59), 59, "1".repeat(59));
        dueTold("n            r 5", 12, "5".repeat(12));
    }

    private static void others() {
        Whole.Run run = x -> {
            Whole.full(x);
            x.picture();
            Whole.tell(x, "o123");
        };
        MovedBlocks was = Whole.after(Whole.FULL), is = Whole.after(run);
        Sentences.due("NOW stays by o", Whole.dots(is, 1), Whole.dots(was, 1));
        due("the kind stays", is.count(0), 3);
        due("the draw stays", is.seed(0), 777);
        due("the sheets stay", is.drop(1), 8);
        MovedBlocks old = Whole.after(x -> {
            Whole.full(x);
            x.picture();
            Whole.tell(x, "n123");
        });
        Sentences.due("OLD stays by n", Whole.dots(old, 0), Whole.dots(Whole.after(Whole.FULL), 0));
        due("the kind stays", old.count(0), 3);
        due("the draw stays", old.seed(0), 777);
        due("the image stays", old.restore(), 1);
        due("its kind", old.count(0), 1);
        MovedBlocks both = Dots.told("o1", "n2", "b");
        Sentences.due("OLD by b", Whole.dots(both, 0), ZEROS);
        Sentences.due("NOW by b", Whole.dots(both, 1), ZEROS);
    }

    // ---- sheets

    private static void fourSheets() {
        MovedBlocks x = new MovedBlocks();
        due("-1", x.sheet(-1, 0, 1), BAD);
        for (int sheet = 0; sheet < 4; sheet++) {
            due("sheet " + sheet, x.sheet(sheet, 0, sheet + 1), sheet + 1);
        }
        due("4", x.sheet(4, 0, 1), BAD);
        for (int sheet = 0; sheet < 4; sheet++) {
            due("each has its own", x.drop(sheet), sheet + 1);
        }
    }

    private static void nothingAtFirst() {
        for (int sheet = 0; sheet < 4; sheet++) {
            MovedBlocks x = new MovedBlocks();
            due("found", x.found(sheet, 0, 0, 1), NULL);
            due("film", x.film(1, sheet, 0, 0), NULL);
            due("item", x.item(sheet, 0, 0, 0), NULL);
            due("copy", x.copy(sheet, 0, sheet, 0, 0), NULL);
            due("drop", x.drop(sheet), NULL);
        }
    }

    private static void lanes() {
        long[] wraps = {1L << 8, 1L << 16, 1L << 32, 0};
        for (int lane = 0; lane < 4; lane++) {
            MovedBlocks x = new MovedBlocks();
            due("-1", x.sheet(0, -1, 1), BAD);
            due("4", x.sheet(0, 4, 1), BAD);
            due("lane " + lane, x.sheet(0, lane, 1), 1);
            for (int other = 0; other < 4; other++) {
                due("taken as " + other, x.item(0, other, 0, 24 + wraps[lane]), other == lane ? 1 : CAST);
            }
            due("its bits", x.found(0, lane, 0, 1), 31);
            for (int wider = lane; wider < 3; wider++) {
                MovedBlocks y = new MovedBlocks();
                y.sheet(0, wider + 1, 1);
                y.item(0, wider + 1, 0, 24 + wraps[lane]);
                due("lane " + (wider + 1) + " has more bits than " + lane, y.found(0, wider + 1, 0, 1), 0);
            }
        }
    }

    private static void items0To24() {
        for (int lane = 0; lane < 4; lane++) {
            MovedBlocks x = new MovedBlocks();
            due("-1", x.sheet(0, lane, -1), -1000014);
            due("0", x.sheet(0, lane, 0), 0);
            due("no item", x.item(0, lane, 0, 1), INDEX);
            due("24", x.sheet(0, lane, 24), 24);
            due("the last", x.item(0, lane, 23, 1), 1);
            due("none behind it", x.item(0, lane, 24, 1), INDEX);
            due("25", x.sheet(0, lane, 25), BAD);
            due("24 all the same", x.drop(0), 24);
        }
    }
}
