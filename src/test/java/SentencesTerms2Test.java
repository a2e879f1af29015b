import java.io.IOException;
import java.util.HashSet;
import java.util.Set;

/** Part 2 of the terms, what is looked for, sentence by sentence. */
public final class SentencesTerms2Test {
    private static final String ONES = "b" + "r1".repeat(8);

    public static void main(String[] args) throws IOException {
        Sentences s = new Sentences();
        s.section("Terms 2");
        best(s);
        quick(s);
        half(s);
        field(s);
        rest(s);
        s.finish();
    }

    private static void best(Sentences s) {
        s.says("(Nothing is changed.)", SentencesTerms2Test::nothingChanged);
        s.says("BEST of a BLOCK: the MOVE that costs least,", () -> bestOfDrawn(10));
        s.says("of like ones the first in ORDER; its COST.", () -> bestOfDrawn(2));
        s.says("LOOKS of a BLOCK: were MOVES tried in ORDER,", SentencesTerms2Test::looksInOrder);
        s.says("DOTS one by one (row by row),", SentencesTerms2Test::rowByRow);
        s.says("one given up as soon as it costs as much as the least so far", SentencesTerms2Test::asMuch);
        s.says("(ahead of its first DOT, too,", SentencesTerms2Test::aheadOfFirstDot);
        s.says("but for the first MOVE): how many DOTS are looked at.", SentencesTerms2Test::firstMove);
        s.says("LEFT OUT: how many MOVES, tried so, need no DOT at all,", SentencesTerms2Test::noDotAtAll);
        s.says("for by PLAIN, EDGE, DEAR the sum of all DOTS of the BLOCK in NOW is as far from that in OLD, or farther, "
            + "as the least COST so far", SentencesTerms2Test::asFar);
        s.says("(by SQUARE, STEEP none is;", SentencesTerms2Test::noneBySquares);
        s.says("the first MOVE never is).", SentencesTerms2Test::firstNever);
        s.says("SKIMMED: LOOKS, if those are left out.", SentencesTerms2Test::skimmed);
    }

    private static void quick(Sentences s) {
        s.says("QUICK: of both PICTURES those of half the size", SentencesTerms2Test::bothHalved);
        s.says("(6 by 4; each DOT the sum of 2 by 2, by 4);", SentencesTerms2Test::sumOfFour);
        s.says("a BLOCK is 2 by 2 there;", SentencesTerms2Test::twoByTwo);
        s.says("of MOVES of -1 .. 1 the one that costs least", SentencesTerms2Test::nineMoves);
        s.says("by PLAIN there,", SentencesTerms2Test::plainThere);
        s.says("of like ones the first in ORDER; then", SentencesTerms2Test::likeHalves);
        s.says("then of MOVES twice that, and 1 more or less or the same, x, y each, as far as they are -3 .. 3,",
            SentencesTerms2Test::twiceThat);
        s.says("the BEST by LIKENESS.", SentencesTerms2Test::bestByLikeness);
    }

    private static void half(Sentences s) {
        s.says("HALF: around the BEST MOVE,", SentencesTerms2Test::aroundBest);
        s.says("by half DOTS (h, v -1 .. 1 each):", SentencesTerms2Test::nineHalves);
        s.says("the DOT in OLD is by h, v 0 as it is;", SentencesTerms2Test::asItIs);
        s.says("else the sum of it, of the one beside it (h), of the one below or above it (v), of the one that is both "
            + "(h, v), of those that it takes, by 2, by 4;", SentencesTerms2Test::sumOfThose);
        s.says("COST by PLAIN of all DOTS;", SentencesTerms2Test::halfByPlain);
        s.says("the h, v that cost least, of like ones the first, v rising, then h;", SentencesTerms2Test::firstHalf);
        s.says("told as 3 times (v and 1), and h and 1.", SentencesTerms2Test::nineHalves);
    }

    private static void field(Sentences s) {
        s.says("FIELD: the BEST MOVES of all BLOCKS; each is told by what x, y are more than FORETOLD:",
            SentencesTerms2Test::moreThanForetold);
        s.says("of the BLOCKS on its left, above it, above it to the right, those that there are:",
            SentencesTerms2Test::neighbours);
        s.says("x in the middle", SentencesTerms2Test::middle);
        s.says("(of two the lesser,", SentencesTerms2Test::lesser);
        s.says("of none 0),", SentencesTerms2Test::ofNone);
        s.says("y likewise;", SentencesTerms2Test::likewise);
        s.says("LONG are the BITS of that: of each number e: 1 if it is 0, else 1 and twice the BITS of e without its sign.",
            SentencesTerms2Test::bits);
        s.says("All BLOCKS together.", SentencesTerms2Test::together);
    }

    private static void rest(Sentences s) {
        s.says("REBUILT: each DOT of NOW from OLD by the MOVE of its BLOCK;", SentencesTerms2Test::rebuilt);
        s.says("LACKS: how many DOTS are other ones.", SentencesTerms2Test::lacks);
        s.says("PAN: of all MOVES, the same for all BLOCKS, that which costs least together,", () -> pan(10));
        s.says("of like ones the first in ORDER; what that costs.", SentencesTerms2Test::likePans);
        s.says("WRONG by c of 10 (0 .. 10):", SentencesTerms2Test::wrongByC);
        s.says("each of the first n (0 .. 6) DOTS of NOW", SentencesTerms2Test::wrongFirst);
        s.says("is 9 less itself by c of 10, apart:", SentencesTerms2Test::wrongApart);
        s.says("how likely the BEST of BLOCK 0 is another MOVE then:", SentencesTerms2Test::anotherMove);
        s.says("a fraction in lowest terms.", SentencesTerms2Test::lowestTerms);
    }

    private static void due(String what, long got, long want) {
        Sentences.due(what, got, want);
    }

    private static void dueLooks(String what, MovedBlocks x, int block, int looks, int leftOut, int skimmed) {
        due("looks, " + what, x.of(block, 2), looks);
        due("left out, " + what, x.of(block, 3), leftOut);
        due("skimmed, " + what, x.of(block, 4), skimmed);
    }

    // ---- BEST, LOOKS, LEFT OUT, SKIMMED

    private static void nothingChanged() {
        Whole.changesNothing("all that is looked for", Whole.FULL, x -> {
            int sum = 0;
            for (int what = 0; what <= 9; what++) {
                sum += x.of(what % 6, what) + x.count(what % 8) + x.cost(what % 6, 4 * what) + x.rebuilt(what, what % 8);
            }
            return sum + x.wrong(6, 3, 0) + x.wrong(6, 3, 1) + x.found(1, 3, 0, 6);
        });
    }

    /** By costs asked for one by one; of few figures there are many like ones. */
    private static void bestOfDrawn(int figures) {
        for (int kind = 0; kind < 5; kind++) {
            MovedBlocks x = Dots.scene(few(21 + kind, figures), few(31 + kind, figures));
            x.like(kind);
            for (int block = 0; block < 6; block++) {
                int best = Dots.bestIn(x, block, 24, 3);
                due("best of " + block + " by " + kind, x.of(block, 0), best);
            }
        }
        for (int kind = 0; kind < 5; kind++) {
            MovedBlocks x = Dots.scene(few(41 + kind, figures), few(51 + kind, figures));
            x.like(kind);
            for (int block = 0; block < 6; block++) {
                due("its cost", x.of(block, 1), x.cost(block, x.of(block, 0)));
            }
        }
    }

    private static int[] few(int seed, int figures) {
        int[] dots = Dots.drawn(seed);
        for (int i = 0; i < 96; i++) {
            dots[i] %= figures;
        }
        return dots;
    }

    /** Block 0 has a 1 as its first and its last dot; OLD has a 1 that the last one is by move 25. */
    private static MovedBlocks betterLater() {
        MovedBlocks x = Dots.told("o r0 r0 r0 0000 1", "n 1 r0 r0 r0 000 1");
        due("best", x.of(0, 0), 25);
        due("cost", x.of(0, 1), 1);
        return x;
    }

    private static void looksInOrder() {
        // Still costs 2; 17, 23 are looked through; 25 costs 1; from then on each is given up at its first dot.
        due("looks", betterLater().of(0, 2), 4 * 16 + 45);
    }

    private static void noDotAtAll() {
        // Still costs 2, by 17, 23 sums are 2 apart; by 25 they are 1 apart and it costs 1, as far as all others are.
        due("left out", betterLater().of(0, 3), 47);
        due("still and 25 are skimmed", betterLater().of(0, 4), 32);
    }

    private static void rowByRow() {
        for (int block = 0; block < 6; block++) {
            for (int place = 0; place < 16; place++) {
                MovedBlocks x = new MovedBlocks();
                x.paint(Dots.column(block, place), Dots.row(block, place), 1);
                due("looks up to " + place + " of " + block, x.of(block, 2), 16 + 48 * (place + 1));
            }
        }
    }

    /** OLD is 0: all moves cost the same, dot by dot. */
    private static void asMuch() {
        MovedBlocks x = new MovedBlocks();
        x.paint(0, 0, 4);
        due("as much at the first dot", x.of(0, 2), 16 + 48);
        x.paint(3, 3, 1);
        due("1 less up to the last dot", x.of(0, 2), 16 + 48 * 16);
        x.paint(1, 0, 9);
        x.paint(3, 3, 0);
        due("as much at the second dot", x.of(0, 2), 16 + 48 * 2);
        x.like(1);
        due("by SQUARE", x.of(0, 2), 16 + 48 * 2);
        x.paint(3, 3, 1);
        due("by SQUARE 1 less up to the last dot", x.of(0, 2), 16 + 48 * 16);
        // OLD is 9 but for block 0: the second dot costs 8 by moves of 3 to the right, 1 by all others; still costs 1.
        MovedBlocks y = Dots.told("o" + "0000r9".repeat(4) + "r9r9r9r9", "n0 1");
        due("more than the least", y.of(0, 2), 16 + 48 * 2);
    }

    private static void aheadOfFirstDot() {
        due("the least is 0", new MovedBlocks().of(0, 2), 16);
        int[] due = {16 + 48, 16 + 48, 16 + 48, 16, 16 + 48};
        for (int kind = 0; kind < 5; kind++) {
            MovedBlocks x = new MovedBlocks();
            x.like(kind);
            x.paint(0, 0, 1);
            due("the least is 1 by " + kind, x.of(0, 2), due[kind]);
        }
        // By DEAR moves of 1, 2, 3 cost 2, 4, 6 ahead of their dots: 4, 8 and 12 of them.
        int[] looks = {16, 16, 16, 16 + 4, 16 + 4, 16 + 12, 16 + 12, 16 + 24, 16 + 24, 16 + 36};
        for (int least = 0; least <= 9; least++) {
            MovedBlocks x = new MovedBlocks();
            x.like(3);
            x.paint(0, 0, least);
            due("DEAR, the least is " + least, x.of(0, 2), looks[least]);
        }
    }

    private static void firstMove() {
        MovedBlocks x = Dots.scene(Dots.all(0), Dots.all(9));
        for (int kind : new int[] {1, 2, 3, 4, 0}) {
            x.like(kind);
            due("the first is looked through by " + kind, x.of(5, 2) >= 16 ? 1 : 0, 1);
        }
        due("the first, and all others up to their last dot", x.of(5, 2), 49 * 16);
        MovedBlocks y = new MovedBlocks();
        for (int kind = 4; kind >= 0; kind--) {
            y.like(kind);
            due("the first alone by " + kind, y.of(5, 2), 16);
        }
    }

    private static void asFar() {
        MovedBlocks x = new MovedBlocks();
        x.paint(0, 0, 1);
        dueLooks("PLAIN: 1 far, the least is 1", x, 0, 16 + 48, 48, 16);
        x.like(2);
        dueLooks("EDGE: 1 far, the least is 2", x, 0, 16 + 48, 0, 16 + 48);
        x.undo();
        x.undo();
        x.paint(1, 1, 1);
        x.like(2);
        dueLooks("EDGE: 1 far, the least is 1", x, 0, 16 + 48 * 6, 48, 16);
        x.like(3);
        dueLooks("DEAR: 1 far, the least is 1", x, 0, 16, 48, 16);
        // One dot less, one more by 2: the sums are 1 apart, still costs 3.
        MovedBlocks y = Dots.told(ONES);
        y.paint(0, 0, 0);
        y.paint(1, 0, 3);
        dueLooks("PLAIN: 1 far, the least is 3", y, 0, 16 + 48 * 2, 0, 16 + 48 * 2);
        y.like(3);
        dueLooks("DEAR: 1 far, the least is 3, moves that cost 4 are looked at in no dot, and not left out", y, 0,
            16 + 4, 0, 16 + 4);
        // As many more as less: by DEAR sums of moves are 0 apart, whatever the moves cost themselves.
        MovedBlocks z = Dots.told(ONES);
        z.paint(0, 0, 0);
        z.paint(1, 0, 2);
        z.like(3);
        dueLooks("DEAR: 0 far, the least is 2", z, 0, 16, 0, 16);
        farther();
    }

    /** NOW is 0 but for a 1, OLD 0 in block 0 and 9 elsewhere: sums are 1 apart, or 35 and more. */
    private static void farther() {
        MovedBlocks x = Dots.told("o" + "0000r9".repeat(4) + "r9r9r9r9", "n1");
        due("all but the first", x.of(0, 3), 48);
        x.like(3);
        due("all but the first by DEAR", x.of(0, 3), 48);
        x.like(2);
        // The least is 2: by moves to the left and up, 15 of them, sums are 1 apart.
        due("those that see a 9 by EDGE", x.of(0, 3), 48 - 15);
    }

    private static void noneBySquares() {
        MovedBlocks x = new MovedBlocks();
        x.like(1);
        dueLooks("SQUARE", x, 0, 16, 0, 16);
        x.paint(3, 3, 9);
        dueLooks("SQUARE of one", x, 0, 49 * 16, 0, 49 * 16);
        x.like(4);
        dueLooks("STEEP of one", x, 0, 49 * 16, 0, 49 * 16);
        x.like(0);
        dueLooks("PLAIN of one", x, 0, 49 * 16, 48, 16);
        MovedBlocks y = Dots.scene(Dots.all(0), Dots.all(9));
        for (int kind : new int[] {1, 4}) {
            y.like(kind);
            due("none by " + kind, y.of(3, 3), 0);
        }
    }

    private static void firstNever() {
        MovedBlocks x = Dots.scene(Dots.all(0), Dots.all(9));
        for (int kind : new int[] {2, 3, 0}) {
            x.like(kind);
            due("but for the first by " + kind, x.of(5, 3), kind == 2 ? 0 : 48);
        }
        due("the first is looked through", x.of(5, 4), 16);
        due("of nothing", new MovedBlocks().of(0, 3), 48);
    }

    private static void skimmed() {
        for (int kind = 0; kind < 5; kind++) {
            for (int seed = 0; seed < 10; seed++) {
                int[] old = few(60 + seed, 10), now = few(80 + seed, 10);
                MovedBlocks x = Dots.scene(old, now);
                x.like(kind);
                for (int block = 0; block < 6; block++) {
                    int[] looked = looked(x, old, now, kind, block);
                    dueLooks("by " + kind + " of " + block, x, block, looked[0], looked[1], looked[2]);
                }
            }
        }
    }

    /** LOOKS, LEFT OUT, SKIMMED by the document's words, from rows of dots. */
    private static int[] looked(MovedBlocks x, int[] old, int[] now, int kind, int block) {
        int least = 0, looks = 0, leftOut = 0, skimmed = 0;
        for (int move : Dots.ORDER) {
            boolean first = move == 24;
            int cost = kind == 3 ? 2 * Dots.steps(move) : 0;
            int sums = 0, dots = 0;
            for (int i = 0; i < 16; i++) {
                int c = Dots.column(block, i), r = Dots.row(block, i);
                int more = now[Dots.index(c, r)] - old[Dots.index(c + Dots.x(move), r + Dots.y(move))];
                dots += first || cost < least ? 1 : 0;
                cost += cost(kind, Math.abs(more), i);
                sums += more;
            }
            boolean left = !first && kind % 3 != 1 && Math.abs(sums) >= least;
            looks += dots;
            leftOut += left ? 1 : 0;
            skimmed += left ? 0 : dots;
            least = first ? cost : Math.min(least, cost);
        }
        due("the least of all", x.of(block, 1), least);
        return new int[] {looks, leftOut, skimmed};
    }

    private static int cost(int kind, int far, int place) {
        boolean inner = place == 5 || place == 6 || place == 9 || place == 10;
        return new int[] {far, far * far, inner ? far : 2 * far, far, Math.min(9, far * far)}[kind];
    }

    // ---- QUICK

    private static void bothHalved() {
        // OLD has 4 at column 9, row 1, NOW at column 7: half dots of 1, one apart, so QUICK looks around 2, 0.
        due("halves of 1", Dots.told("or0 000000000 4", "nr0 0000000 4").of(1, 5), 26);
        due("a half dot of 3 by 4 in NOW is 0", Dots.told("or0 000000000 4", "nr0 0000000 3").of(1, 5), 24);
        due("a half dot of 3 by 4 in OLD is 0", Dots.told("or0 000000000 3", "nr0 0000000 4").of(1, 5), 24);
        due("while 2, 0 is the best", Dots.told("or0 000000000 4", "nr0 0000000 3").of(1, 0), 26);
    }

    /** Block 1 of NOW is 0; by a half dot of 1 in its corner in OLD QUICK turns to 2, 0, where that is out of sight. */
    private static void sumOfFour() {
        String[] old = {"o0000 4", "o00000 4", "or0 0000 4", "or0 00000 4", "o0000 11 r0 0000 11", "o0000 2 r0 00000 2",
            "o0000 3 r0 0000 1"};
        for (String text : old) {
            MovedBlocks x = Dots.told(text);
            due(text, x.of(1, 5), Dots.bestIn(x, 1, Dots.move(2, 0), 1));
        }
        String[] less = {"or0 00000 3", "o0000 11 r0 0000 01", "o00000 1 r0 0000 02"};
        for (String text : less) {
            MovedBlocks x = Dots.told(text);
            due(text, x.of(1, 5), Dots.bestIn(x, 1, 24, 1));
            due(text + " around 2, 0 is another one", Dots.bestIn(x, 1, Dots.move(2, 0), 1) == x.of(1, 5) ? 1 : 0,
                0);
        }
        due("7 by 4 is 1", Dots.told(ONES, "or1 11111 4 r1 r1r1r1r1r1r1").of(1, 5), 24);
        due("8 by 4 is 2", Dots.told(ONES, "or1 11111 5 r1 r1r1r1r1r1r1").of(1, 5), 26);
    }

    private static void dueQuick(int[] old, int[] now, int kind) {
        MovedBlocks x = Dots.scene(old, now);
        x.like(kind);
        for (int block = 0; block < 6; block++) {
            int half = Dots.halfMove(old, now, block);
            int middle = Dots.move(2 * Dots.x(half), 2 * Dots.y(half));
            due("quick of " + block, x.of(block, 5), Dots.bestIn(x, block, middle, 1));
        }
    }

    private static void twoByTwo() {
        for (int seed = 0; seed < 30; seed++) {
            dueQuick(Dots.drawn(seed), Dots.drawn(seed + 100), 0);
        }
    }

    /** Moves of two columns or rows are those of one half dot: seen from block 4 up, from block 1 down. */
    private static void nineMoves() {
        int[] old = Dots.drawn(22);
        for (int x = -1; x <= 1; x++) {
            for (int y = -1; y <= 1; y++) {
                int block = y < 0 ? 4 : 1;
                int move = Dots.move(2 * x, 2 * y);
                int[] now = Dots.moved(old, move, move, move, move, move, move);
                due("half dots of " + move, Dots.halfMove(old, now, block), Dots.move(x, y));
                due("quick", Dots.scene(old, now).of(block, 5), move);
            }
        }
    }

    private static void plainThere() {
        // By DEAR a half dot of 1 would not pay for a move, were that counted there.
        MovedBlocks x = Dots.told("or0 00000 4");
        x.like(3);
        due("not by DEAR", x.of(1, 5), 26);
        // Half dots of OLD: 3 at column 2 of row 0; 2, 2 at column 4; 9 around: still costs 3 by PLAIN, 9 by SQUARE; to
        // the right it is 4 by PLAIN, 8 by SQUARE.
        MovedBlocks y = Dots.told("o 9999 33 00 22 99 9999 33 00 22 99 9999 00 00 22 99 9999 00 00 22 99 r9 r9 r9 r9");
        y.like(1);
        int near = Dots.bestIn(y, 1, 24, 1), right = Dots.bestIn(y, 1, Dots.move(2, 0), 1);
        due("the two are unlike", near == right ? 1 : 0, 0);
        due("not by SQUARE", y.of(1, 5), near);
    }

    private static void likeHalves() {
        due("all are alike", new MovedBlocks().of(3, 5), 24);
        for (int seed = 0; seed < 60; seed++) {
            dueQuick(times4(few(seed, 2)), times4(few(seed + 100, 2)), seed % 5);
        }
        // Half dots of block 1 in OLD are 0 but for one column of 1 each on its left and right: 23 is ahead of 25.
        MovedBlocks x = Dots.told("o" + "0044 0000 44 00".repeat(4), "n" + "0000 4444 0000".repeat(4));
        due("the left of like ones", x.of(1, 5), Dots.bestIn(x, 1, Dots.move(-2, 0), 1));
    }

    private static int[] times4(int[] dots) {
        for (int i = 0; i < 96; i++) {
            dots[i] *= 4;
        }
        return dots;
    }

    /** For each half move: moves up to 1 from twice it are found, none farther is. */
    private static void twiceThat() {
        Set<Integer> apart = new HashSet<>();
        for (int seed = 23; seed < 26; seed++) {
            int[] old = Dots.drawn(seed);
            for (int move = 0; move < 49; move++) {
                int[] now = Dots.moved(old, move, move, move, move, move, move);
                MovedBlocks x = Dots.scene(old, now);
                for (int block = 0; block < 6; block++) {
                    int half = Dots.halfMove(old, now, block);
                    int byX = Dots.x(move) - 2 * Dots.x(half), byY = Dots.y(move) - 2 * Dots.y(half);
                    boolean near = Math.abs(byX) <= 1 && Math.abs(byY) <= 1;
                    due(move + " around half " + half, x.of(block, 5) == move ? 1 : 0, near ? 1 : 0);
                    apart.add(100 * byX + byY);
                }
            }
        }
        for (int by = -1; by <= 1; by++) {
            for (int other = -1; other <= 1; other++) {
                due("apart by " + by + " " + other, apart.contains(100 * by + other) ? 1 : 0, 1);
            }
        }
        for (int two = -2; two <= 2; two += 4) {
            int inX = 0, inY = 0;
            for (int by = -1; by <= 1; by++) {
                inX += apart.contains(100 * two + by) ? 1 : 0;
                inY += apart.contains(100 * by + two) ? 1 : 0;
            }
            due("apart by " + two + " in x", inX > 0 ? 1 : 0, 1);
            due("apart by " + two + " in y", inY > 0 ? 1 : 0, 1);
        }
    }

    private static void bestByLikeness() {
        for (int kind = 0; kind < 5; kind++) {
            for (int seed = 0; seed < 10; seed++) {
                dueQuick(Dots.drawn(seed), Dots.drawn(seed + 200), kind);
                dueQuick(few(seed, 2), few(seed + 200, 2), kind);
            }
        }
    }

    // ---- HALF

    /** The dot of OLD by half dots, from rows of dots. */
    private static int halfDot(int[] old, int column, int row, int h, int v) {
        int here = old[Dots.index(column, row)];
        int beside = old[Dots.index(column + h, row)];
        int below = old[Dots.index(column, row + v)];
        int both = old[Dots.index(column + h, row + v)];
        return h == 0 && v == 0 ? here : h == 0 ? (here + below) / 2 : v == 0 ? (here + beside) / 2
            : (here + beside + below + both) / 4;
    }

    /** NOW as it is by half dots around a move. */
    private static int[] halfMoved(int[] old, int move, int h, int v) {
        int[] now = new int[96];
        for (int i = 0; i < 96; i++) {
            now[i] = halfDot(old, i % 12 + Dots.x(move), i / 12 + Dots.y(move), h, v);
        }
        return now;
    }

    private static int halfCost(int[] old, int[] now, int block, int move, int h, int v) {
        int cost = 0;
        for (int i = 0; i < 16; i++) {
            int c = Dots.column(block, i), r = Dots.row(block, i);
            cost += Math.abs(now[12 * r + c] - halfDot(old, c + Dots.x(move), r + Dots.y(move), h, v));
        }
        return cost;
    }

    private static void dueHalf(int[] old, int[] now, int kind) {
        MovedBlocks x = Dots.scene(old, now);
        x.like(kind);
        for (int block = 0; block < 6; block++) {
            int best = x.of(block, 0), half = -1, least = 0;
            for (int told = 0; told < 9; told++) {
                int cost = halfCost(old, now, block, best, told % 3 - 1, told / 3 - 1);
                if (half < 0 || cost < least) {
                    half = told;
                    least = cost;
                }
            }
            due("half of " + block, x.of(block, 6), half);
            due("half costs of " + block, x.of(block, 7), least);
        }
    }

    private static void aroundBest() {
        int[] old = Dots.drawn(27);
        for (int move = 0; move < 49; move++) {
            int[] now = Dots.moved(old, move, move, move, move, move, move);
            MovedBlocks x = Dots.scene(old, now);
            for (int block = 0; block < 6; block++) {
                due("best", x.of(block, 0), move);
                due("nothing is left", x.of(block, 7), 0);
            }
            dueHalf(old, now, 0);
        }
    }

    /** For each of the nine a picture that is so, of which BEST is the move in whose middle they are. */
    private static void nineHalves() {
        for (int told = 0; told < 9; told++) {
            int h = told % 3 - 1, v = told / 3 - 1, found = 0;
            for (int seed = 0; seed < 200 && found == 0; seed++) {
                int[] old = Dots.drawn(seed);
                int move = Dots.ORDER[seed % 9], block = v > 0 ? 1 : 4;
                int[] now = halfMoved(old, move, h, v);
                MovedBlocks x = Dots.scene(old, now);
                if (x.of(block, 0) == move) {
                    found++;
                    due("half " + told, x.of(block, 6), told);
                    due("half " + told + " costs", x.of(block, 7), 0);
                }
            }
            due("a picture of half " + told, found, 1);
        }
    }

    private static void asItIs() {
        int[] old = Dots.drawn(28);
        MovedBlocks x = Dots.scene(old, old);
        due("in the middle", x.of(1, 6), 4);
        due("in the middle", x.of(4, 6), 4);
        due("nothing", x.of(4, 7), 0);
    }

    private static void sumOfThose() {
        for (int seed = 0; seed < 40; seed++) {
            dueHalf(Dots.drawn(seed), Dots.drawn(seed + 300), 0);
        }
        // OLD is 0 but for a 1 in the middle of block 4, NOW is 0: by 2 and by 4 that is 0, cut.
        MovedBlocks x = Dots.told("o r0 r0 r0 r0 r0 00000 1");
        due("a 1 by 4 is the first that costs nothing", x.of(4, 6), 0);
        due("a 1 by 4", x.of(4, 7), 0);
        MovedBlocks y = Dots.told("b" + "r3".repeat(8));
        due("four of 3 by 4, two of 3 by 2", y.of(4, 7), 0);
        due("the first", y.of(4, 6), 0);
    }

    private static void halfByPlain() {
        for (int kind = 1; kind < 5; kind++) {
            for (int seed = 0; seed < 15; seed++) {
                dueHalf(Dots.drawn(seed), Dots.drawn(seed + 400), kind);
            }
        }
        MovedBlocks x = Dots.scene(Dots.all(0), Dots.all(9));
        int[] kinds = {1, 2, 3, 4, 0};
        for (int kind : kinds) {
            x.like(kind);
            due("all dots by " + kind, x.of(2, 7), 144);
        }
        int[] old = Dots.drawn(29);
        int far = Dots.move(3, 3);
        MovedBlocks y = Dots.scene(old, Dots.moved(old, far, far, far, far, far, far));
        y.like(3);
        due("a move is not dear", y.of(0, 7), 0);
    }

    private static void firstHalf() {
        due("all are alike", new MovedBlocks().of(4, 6), 0);
        // Rows are alike: v counts for nothing, the first is above. Columns are alike: h counts for nothing.
        due("rows are alike", Dots.told("b" + "027 027 027 027".repeat(8)).of(4, 6), 1);
        due("columns are alike", Dots.told("b r0 r2 r7 r0 r2 r7 r0 r2").of(4, 6), 3);
        for (int seed = 0; seed < 40; seed++) {
            dueHalf(few(seed, 2), few(seed + 500, 2), seed % 5);
        }
    }

    // ---- FIELD, FORETOLD, LONG

    private static MovedBlocks byMoves(int... moves) {
        int[] old = Dots.drawn(30);
        MovedBlocks x = Dots.scene(old, Dots.moved(old, moves));
        for (int block = 0; block < 6; block++) {
            due("best of " + block, x.of(block, 0), moves[block]);
        }
        return x;
    }

    private static MovedBlocks byX(int... xs) {
        int[] moves = new int[6];
        for (int block = 0; block < 6; block++) {
            moves[block] = Dots.move(xs[block], 0);
        }
        return byMoves(moves);
    }

    private static MovedBlocks byY(int... ys) {
        int[] moves = new int[6];
        for (int block = 0; block < 6; block++) {
            moves[block] = Dots.move(0, ys[block]);
        }
        return byMoves(moves);
    }

    private static void dueForetold(MovedBlocks x, int what, int... due) {
        for (int block = 0; block < 6; block++) {
            due("foretold of " + block, x.of(block, what), due[block]);
        }
    }

    private static void moreThanForetold() {
        due("as foretold", byX(2, 2, 2, 2, 2, 2).count(2), 12 + 4);
        due("1 more", byX(0, 1, 1, 0, 1, 1).count(2), 12 + 2);
        due("1 less", byX(0, -1, -1, -1, -1, -1).count(2), 12 + 2);
        due("each by its own", byMoves(0, 48, 0, 48, 0, 48).count(2), 2 * (5 + 7 + 7 + 7 + 7 + 7));
    }

    private static void neighbours() {
        dueForetold(byX(1, 0, 0, 0, 0, 0), 8, 0, 1, 0, 0, 0, 0);
        dueForetold(byX(0, 1, 0, 0, 0, 0), 8, 0, 0, 1, 0, 0, 0);
        dueForetold(byX(1, 1, 0, 0, 0, 0), 8, 0, 1, 1, 1, 0, 0);
        dueForetold(byX(0, 1, 1, 0, 0, 0), 8, 0, 0, 1, 0, 1, 0);
        dueForetold(byX(0, 0, 1, 1, 0, 0), 8, 0, 0, 0, 0, 1, 0);
        dueForetold(byX(0, 1, 0, 1, 0, 0), 8, 0, 0, 1, 0, 1, 0);
        dueForetold(byX(0, 0, 1, 0, 1, 0), 8, 0, 0, 0, 0, 0, 1);
        dueForetold(byX(0, 0, 0, 0, 0, 1), 8, 0, 0, 0, 0, 0, 0);
    }

    private static void middle() {
        int[][] orders = {{-3, 1, 2}, {-3, 2, 1}, {1, -3, 2}, {1, 2, -3}, {2, -3, 1}, {2, 1, -3}};
        for (int[] by : orders) {
            due("of three", byX(0, by[1], by[2], by[0], 0, 0).of(4, 8), 1);
        }
        due("two are alike", byX(0, 2, -1, 2, 0, 0).of(4, 8), 2);
        due("two are alike", byX(0, -1, 2, -1, 0, 0).of(4, 8), -1);
        due("of one", byX(-3, 0, 0, 0, 0, 0).of(1, 8), -3);
        due("of one", byX(0, 3, 0, 0, 0, 0).of(2, 8), 3);
    }

    private static void lesser() {
        due("the first", byX(-2, 3, 0, 0, 0, 0).of(3, 8), -2);
        due("the second", byX(3, -2, 0, 0, 0, 0).of(3, 8), -2);
        due("by sign", byX(-3, 1, 0, 0, 0, 0).of(3, 8), -3);
        due("the left", byX(0, 0, 2, 0, 1, 0).of(5, 8), 1);
        due("the one above", byX(0, 0, 1, 0, 2, 0).of(5, 8), 1);
        due("like ones", byX(2, 2, 0, 0, 0, 0).of(3, 8), 2);
    }

    private static void ofNone() {
        MovedBlocks x = byMoves(0, 0, 0, 0, 0, 0);
        due("x", x.of(0, 8), 0);
        due("y", x.of(0, 9), 0);
    }

    private static void likewise() {
        dueForetold(byY(1, 1, 0, 0, 0, 0), 9, 0, 1, 1, 1, 0, 0);
        dueForetold(byY(0, 1, 0, 1, 0, 0), 9, 0, 0, 1, 0, 1, 0);
        due("of three", byY(0, 2, -3, 1, 0, 0).of(4, 9), 1);
        due("of two", byY(3, -2, 0, 0, 0, 0).of(3, 9), -2);
        // x and y each by itself: the middle ones are of two blocks.
        MovedBlocks x = byMoves(24, Dots.move(1, 2), Dots.move(2, 1), Dots.move(-3, 3), 24, 24);
        due("x of three", x.of(4, 8), 1);
        due("y of three", x.of(4, 9), 2);
    }

    private static void bits() {
        int[] long1 = {1, 3, 5, 5, 7, 7, 7};
        for (int e = 0; e <= 3; e++) {
            // All blocks alike: block 0 alone is other than foretold.
            due("x of " + e, byX(e, e, e, e, e, e).count(2), 11 + long1[e]);
            due("x of " + -e, byX(-e, -e, -e, -e, -e, -e).count(2), 11 + long1[e]);
            due("y of " + e, byY(e, e, e, e, e, e).count(2), 11 + long1[e]);
            due("y of " + -e, byY(-e, -e, -e, -e, -e, -e).count(2), 11 + long1[e]);
        }
        for (int e = 1; e <= 6; e++) {
            // Blocks 0 and 1 are other than foretold, by -3 and e, all others as foretold: the left, the lesser, the middle.
            int to = e - 3;
            due("x of -3, " + e, byX(-3, to, to, -3, to, to).count(2), 10 + 5 + long1[e]);
            due("y of -3, " + e, byY(-3, to, to, -3, to, to).count(2), 10 + 5 + long1[e]);
            int from = 3 - e;
            due("x of 3, " + -e, byX(3, from, from, from, from, from).count(2), 10 + 5 + long1[e]);
        }
    }

    private static void together() {
        due("none is other", byMoves(24, 24, 24, 24, 24, 24).count(2), 12);
        // Foretold are 0, 1, 0, 0, 0, 0 in x, all 0 in y; x is 1, 0, 0, 1, 0, 0.
        due("of blocks 0, 1 and 3", byX(1, 0, 0, 1, 1, 0).count(2), 12 + 2 + 2 + 2 + 2);
        due("the last block", byX(0, 0, 0, 0, 0, 3).count(2), 12 + 4);
    }

    // ---- REBUILT, LACKS, PAN, WRONG

    private static void rebuilt() {
        int[] old = Dots.drawn(33), now = Dots.drawn(34);
        for (int kind = 0; kind < 5; kind++) {
            MovedBlocks x = Dots.scene(old, now);
            x.like(kind);
            int lacks = 0;
            for (int i = 0; i < 96; i++) {
                int move = x.of(i / 48 * 3 + i % 12 / 4, 0);
                int dot = old[Dots.index(i % 12 + Dots.x(move), i / 12 + Dots.y(move))];
                due("dot " + i + " by " + kind, x.rebuilt(i % 12, i / 12), dot);
                lacks += dot == now[i] ? 0 : 1;
            }
            due("lacks by " + kind, x.count(3), lacks);
        }
    }

    private static void lacks() {
        due("none", new MovedBlocks().count(3), 0);
        due("all", Dots.scene(Dots.all(1), Dots.all(2)).count(3), 96);
        for (int block = 0; block < 6; block++) {
            MovedBlocks x = new MovedBlocks();
            for (int i = 0; i < 16; i++) {
                due("dots painted", x.count(3), i);
                x.paint(Dots.column(block, i), Dots.row(block, i), 1);
            }
            due("all of a block", x.count(3), 16);
        }
    }

    private static void pan(int figures) {
        for (int kind = 0; kind < 5; kind++) {
            MovedBlocks x = Dots.scene(few(35 + kind, figures), few(45 + kind, figures));
            x.like(kind);
            int best = -1, least = 0;
            for (int move : Dots.ORDER) {
                int cost = 0;
                for (int block = 0; block < 6; block++) {
                    cost += x.cost(block, move);
                }
                if (best < 0 || cost < least) {
                    best = move;
                    least = cost;
                }
            }
            due("pan by " + kind, x.count(4), best);
            due("pan costs by " + kind, x.count(5), least);
        }
    }

    private static void likePans() {
        pan(2);
        // Columns of 0 and 5 by turns: NOW is OLD by one column, left or right, but for 8 dots at the edge.
        MovedBlocks x = Dots.told("o" + "050505050505".repeat(8).substring(0, 96), "n" + "505050505050".repeat(8));
        due("left is ahead of right", x.count(4), 23);
        due("8 dots of 5", x.count(5), 40);
        MovedBlocks y = Dots.told("o" + "r0r5".repeat(4), "n" + "r5r0".repeat(4));
        due("up is ahead of down", y.count(4), 17);
        due("12 dots of 5", y.count(5), 60);
        y.like(3);
        due("each block pays for the move", y.count(5), 60 + 6 * 2);
        due("still", new MovedBlocks().count(4), 24);
    }

    private static MovedBlocks lone() {
        return Dots.told("o r0 r0 r0 000 9");
    }

    private static void dueOdds(MovedBlocks x, int n, int c, int above, int below) {
        due("above of " + n + " by " + c, x.wrong(n, c, 0), above);
        due("below of " + n + " by " + c, x.wrong(n, c, 1), below);
    }

    /** BEST of block 0 is another move if its first dot is wrong. */
    private static void wrongByC() {
        int[] above = {0, 1, 1, 3, 2, 1, 3, 7, 4, 9, 1};
        int[] below = {1, 10, 5, 10, 5, 2, 5, 10, 5, 10, 1};
        for (int c = 0; c <= 10; c++) {
            dueOdds(lone(), 1, c, above[c], below[c]);
        }
        due("-1 of 10", lone().wrong(1, -1, 0), -1000001);
        due("11 of 10", lone().wrong(1, 11, 0), -1000001);
    }

    /** BEST of block 0 is another move if one of its first row is wrong; dots 4, 5 are not its own. */
    private static void wrongFirst() {
        int[] above = {0, 1, 3, 7, 15, 15, 15};
        int[] below = {1, 2, 4, 8, 16, 16, 16};
        for (int n = 0; n <= 6; n++) {
            dueOdds(lone(), n, 5, above[n], below[n]);
        }
        due("-1 dots", lone().wrong(-1, 5, 0), -1000001);
        due("7 dots", lone().wrong(7, 5, 0), -1000001);
        // A row that is wrong is seen by its dots in row 0, not in row 1.
        for (int seed = 0; seed < 30; seed++) {
            dueDrawnOdds(Dots.drawn(seed), Dots.drawn(seed + 600), seed % 5);
        }
    }

    private static void wrongApart() {
        for (int seed = 0; seed < 30; seed++) {
            dueDrawnOdds(few(seed, 2), few(seed + 700, 2), seed % 5);
        }
        // A 4 is 5 then. Still costs 3 and 1 to the right 3; then 4 and 2.
        MovedBlocks x = Dots.told("o45", "n42");
        due("best", x.of(0, 0), 24);
        dueOdds(x, 1, 10, 1, 1);
        // Still costs 0, all that don't see the dot 4; then 1 and 5.
        dueOdds(Dots.told("b4"), 1, 10, 0, 1);
        dueOdds(Dots.told("b5"), 1, 10, 0, 1);
        // Still costs 0, all that don't see the dot 3; then 3 and 6. But a 9 is 0 then, which they are.
        dueOdds(Dots.told("b3"), 1, 10, 0, 1);
        dueOdds(Dots.told("b9"), 1, 10, 1, 1);
    }

    private static void dueDrawnOdds(int[] old, int[] now, int kind) {
        MovedBlocks x = Dots.scene(old, now);
        x.like(kind);
        int usual = best(old, now, kind);
        boolean[] other = new boolean[64];
        for (int set = 0; set < 64; set++) {
            int[] then = now.clone();
            for (int i = 0; i < 6; i++) {
                then[i] = (set >> i & 1) == 1 ? 9 - now[i] : now[i];
            }
            other[set] = best(old, then, kind) != usual;
        }
        for (int n = 0; n <= 6; n++) {
            for (int c = 0; c <= 10; c++) {
                long above = 0, below = 1;
                for (int set = 0; set < 1 << n; set++) {
                    long odds = other[set] ? 1 : 0;
                    for (int i = 0; i < n; i++) {
                        odds *= (set >> i & 1) == 1 ? c : 10 - c;
                    }
                    above += odds;
                }
                for (int i = 0; i < n; i++) {
                    below *= 10;
                }
                for (int by : new int[] {2, 5}) {
                    while (above % by == 0 && below % by == 0) {
                        above /= by;
                        below /= by;
                    }
                }
                dueOdds(x, n, c, (int) above, (int) below);
            }
        }
    }

    /** BEST of block 0, from rows of dots. */
    private static int best(int[] old, int[] now, int kind) {
        int best = -1, least = 0;
        for (int move : Dots.ORDER) {
            int cost = kind == 3 ? 2 * Dots.steps(move) : 0;
            for (int i = 0; i < 16; i++) {
                int there = old[Dots.index(i % 4 + Dots.x(move), i / 4 + Dots.y(move))];
                cost += cost(kind, Math.abs(now[Dots.index(i % 4, i / 4)] - there), i);
            }
            if (best < 0 || cost < least) {
                best = move;
                least = cost;
            }
        }
        return best;
    }

    private static void anotherMove() {
        MovedBlocks x = new MovedBlocks();
        for (int n = 0; n <= 6; n++) {
            dueOdds(x, n, 10, 0, 1);
        }
        MovedBlocks y = lone();
        dueOdds(y, 4, 10, 1, 1);
        due("nothing is painted", y.of(0, 0), 17);
        y.paint(0, 0, 9);
        due("as it would be", y.of(0, 0) == 17 ? 1 : 0, 0);
    }

    private static void lowestTerms() {
        dueOdds(lone(), 0, 5, 0, 1);
        dueOdds(lone(), 6, 0, 0, 1);
        dueOdds(lone(), 6, 10, 1, 1);
        dueOdds(lone(), 2, 3, 51, 100);
        dueOdds(lone(), 2, 2, 9, 25);
        // 1 less 9999 of 10000, and 1 less 1 of 10000: nothing is left to be divided.
        dueOdds(lone(), 4, 1, 10000 - 6561, 10000);
        dueOdds(lone(), 4, 9, 9999, 10000);
    }
}
