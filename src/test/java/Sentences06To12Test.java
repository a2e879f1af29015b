import java.io.IOException;

/** Promises 6 to 12, what is done, sentence by sentence. */
public final class Sentences06To12Test {
    private static final int BAD = -1000001, NOT = -1000002, NONE = -1000004;
    private static final int LEAST = Integer.MIN_VALUE, MOST = Integer.MAX_VALUE;

    public static void main(String[] args) throws IOException {
        Sentences s = new Sentences();
        s.promise(6);
        s.says("PAINTED: the DOT it was.", Sentences06To12Test::painted);
        s.says("BAD;", Sentences06To12Test::paintBad);
        s.says("NOT: it is so.", Sentences06To12Test::paintNot);
        s.promise(7);
        s.says("SHIFTED: how many DOTS are other ones.", Sentences06To12Test::shifted);
        s.says("BAD.", Sentences06To12Test::shiftBad);
        s.promise(8);
        s.says("TAKEN OVER: how many DOTS of OLD are other ones.", Sentences06To12Test::takenOver);
        s.promise(9);
        s.says("LIKED: the KIND it was.", Sentences06To12Test::liked);
        s.says("BAD;", Sentences06To12Test::likeBad);
        s.says("NOT: it is so.", Sentences06To12Test::likeNot);
        s.promise(10);
        s.says("NOISE, n turns (1 .. 40;", Sentences06To12Test::turns);
        s.says("each may be UNDONE):", Sentences06To12Test::turnsUndone);
        s.says("LACKS then.", Sentences06To12Test::noiseLacks);
        s.says("BAD.", Sentences06To12Test::noiseBad);
        s.promise(11);
        s.says("UNDONE: how many more may be.", Sentences06To12Test::undone);
        s.says("NONE: none is known.", Sentences06To12Test::undoNone);
        s.promise(12);
        s.says("THE DRAW becomes v: what it was.", Sentences06To12Test::drawBecomes);
        s.says("BAD: below 0.", Sentences06To12Test::seedBad);
        s.finish();
    }

    private static void due(String what, long got, long want) {
        Sentences.due(what, got, want);
    }

    // ---- promise 6

    private static void painted() {
        int[] drawn = Dots.drawn(6);
        MovedBlocks x = new MovedBlocks();
        due("told", Dots.tell(x, 'b', drawn), 96);
        for (int i = 0; i < 96; i++) {
            due("dot " + i + " was", x.paint(i % 12, i / 12, 9 - drawn[i]), drawn[i]);
            due("dot " + i + " is", x.dot(i % 12, i / 12, 1), 9 - drawn[i]);
            due("dot " + i + " of OLD", x.dot(i % 12, i / 12, 0), drawn[i]);
        }
        MovedBlocks y = new MovedBlocks();
        int was = 0;
        for (int v = 9; v >= 0; v--) {
            due("the dot it was", y.paint(11, 7, v), was);
            was = v;
        }
        Sentences.due("no other dot", Whole.dots(y, 1), "0".repeat(96));
    }

    private static void paintBad() {
        Whole.refused("column -1", x -> x.paint(-1, 0, 1), BAD);
        Whole.refused("column 12", x -> x.paint(12, 0, 1), BAD);
        Whole.refused("row -1", x -> x.paint(0, -1, 1), BAD);
        Whole.refused("row 8", x -> x.paint(0, 8, 1), BAD);
        Whole.refused("v -1", x -> x.paint(0, 0, -1), BAD);
        Whole.refused("v 10", x -> x.paint(0, 0, 10), BAD);
        MovedBlocks x = new MovedBlocks();
        for (int far : new int[] {LEAST, MOST, 256, 65536, -256}) {
            due("column " + far, x.paint(far, 0, 1), BAD);
            due("row " + far, x.paint(0, far, 1), BAD);
            due("v " + far, x.paint(0, 0, far), BAD);
        }
        due("the first corner", x.paint(0, 0, 1), 0);
        due("the last corner", x.paint(11, 7, 9), 0);
        due("beyond the edge, as it is there", x.paint(12, 7, 9), BAD);
        due("beyond the edge, as it is there", x.paint(11, 8, 9), BAD);
    }

    private static void paintNot() {
        Whole.changesNothing("paint 0", Whole.NEW, x -> x.paint(0, 0, 0), NOT);
        Whole.changesNothing("paint the last", Whole.NEW, x -> x.paint(11, 7, 0), NOT);
        Whole.changesNothing("paint in full", Whole.FULL, x -> x.paint(9, 1, 0), NOT);
        MovedBlocks x = new MovedBlocks();
        for (int v = 1; v <= 9; v++) {
            due("another one", x.paint(5, 5, v), v - 1);
            due("it is so", x.paint(5, 5, v), NOT);
        }
        due("eight are known", x.count(7), 8);
        due("OLD is another one all the same", Dots.told("o7").paint(0, 0, 7), 0);
    }

    // ---- promise 7

    private static void shifted() {
        int[] slanted = new int[96];
        for (int i = 0; i < 96; i++) {
            slanted[i] = (i % 12 + 3 * (i / 12)) % 10;
        }
        for (int x = -3; x <= 3; x++) {
            for (int y = -3; y <= 3; y++) {
                MovedBlocks b = new MovedBlocks();
                due("told", Dots.tell(b, 'b', slanted), 96);
                int others = 0;
                int[] now = new int[96];
                for (int i = 0; i < 96; i++) {
                    now[i] = slanted[Dots.index(i % 12 + x, i / 12 + y)];
                    others += now[i] == slanted[i] ? 0 : 1;
                }
                due("others by " + x + " " + y, b.shift(x, y), others);
                for (int i = 0; i < 96; i++) {
                    due("dot " + i, b.dot(i % 12, i / 12, 1), now[i]);
                    due("dot of OLD " + i, b.dot(i % 12, i / 12, 0), slanted[i]);
                }
                due("it may be undone", b.count(7), 1);
            }
        }
        MovedBlocks b = new MovedBlocks();
        due("told", Dots.tell(b, 'n', slanted), 96);
        due("all but the corner", b.shift(1, 1), 95);
        MovedBlocks even = Dots.told("n" + "r4".repeat(8));
        due("all are as they were", even.shift(3, -3), 0);
        due("which may be undone", even.count(7), 1);
        due("not at all", even.shift(0, 0), 0);
        due("which may be undone", even.count(7), 2);
        due("by a column of like rows", Dots.told("n" + "1r2".repeat(8)).shift(1, 0), 8);
        due("by a row", Dots.told("nr1").shift(0, 1), 12);
    }

    private static void shiftBad() {
        Whole.refused("x -4", x -> x.shift(-4, 0), BAD);
        Whole.refused("x 4", x -> x.shift(4, 0), BAD);
        Whole.refused("y -4", x -> x.shift(0, -4), BAD);
        Whole.refused("y 4", x -> x.shift(0, 4), BAD);
        Whole.refused("far", x -> x.shift(LEAST, MOST), BAD);
        Whole.refused("far", x -> x.shift(MOST, LEAST), BAD);
        for (int at = -3; at <= 3; at += 6) {
            due("x " + at, new MovedBlocks().shift(at, 0), 0);
            due("y " + at, new MovedBlocks().shift(0, at), 0);
        }
    }

    // ---- promise 8

    private static void takenOver() {
        MovedBlocks none = new MovedBlocks();
        due("none", none.take(), 0);
        due("which may be undone", none.count(7), 1);
        MovedBlocks x = Dots.scene(Dots.all(1), Dots.all(2));
        due("all", x.take(), 96);
        due("none is left", x.take(), 0);
        x.paint(0, 0, 9);
        due("OLD is not painted", x.dot(0, 0, 0), 2);
        due("one", x.take(), 1);
        due("OLD", x.dot(0, 0, 0), 9);
        x.paint(11, 7, 9);
        x.paint(11, 0, 9);
        due("two", x.take(), 2);
        due("NOW stays", x.dot(11, 7, 1), 9);
        x.undo();
        due("undone", x.dot(11, 7, 0), 2);
    }

    // ---- promise 9

    private static void liked() {
        MovedBlocks x = new MovedBlocks();
        int was = 0;
        for (int kind : new int[] {4, 0, 1, 2, 3, 4, 3, 2, 1, 0}) {
            due("the kind it was", x.like(kind), was);
            due("the kind it is", x.count(0), kind);
            was = kind;
        }
        due("known", x.count(7), 8);
    }

    private static void likeBad() {
        for (int kind : new int[] {-1, 5, LEAST, MOST, 256}) {
            Whole.refused("kind " + kind, x -> x.like(kind), BAD);
        }
    }

    private static void likeNot() {
        Whole.changesNothing("kind 0", Whole.NEW, x -> x.like(0), NOT);
        Whole.changesNothing("kind 3", Whole.FULL, x -> x.like(3), NOT);
        MovedBlocks x = new MovedBlocks();
        for (int kind = 1; kind <= 4; kind++) {
            due("another one", x.like(kind), kind - 1);
            due("it is so", x.like(kind), NOT);
            due("known", x.count(7), kind);
        }
    }

    // ---- promise 10

    private static void turns() {
        for (int n : new int[] {1, 2, 7, 8, 9, 39, 40}) {
            MovedBlocks x = new MovedBlocks();
            int[] now = new int[96];
            long draw = 1;
            for (int i = 0; i < n; i++) {
                draw = (draw * 1103515245L + 12345) % (1L << 31);
                int v = (int) (draw / 65536);
                now[v % 96] = v / 96 % 10;
            }
            x.noise(n);
            StringBuilder due = new StringBuilder();
            for (int dot : now) {
                due.append(dot);
            }
            Sentences.due("NOW after " + n, Whole.dots(x, 1), due.toString());
            Sentences.due("OLD after " + n, Whole.dots(x, 0), "0".repeat(96));
            due("the draw after " + n, x.seed(1), draw);
        }
    }

    private static void turnsUndone() {
        for (int n = 1; n <= 40; n++) {
            MovedBlocks x = new MovedBlocks();
            x.noise(n);
            due("known after " + n, x.count(7), Math.min(8, n));
        }
        for (int back = 0; back <= 8; back++) {
            int undone = back;
            Sentences.due(back + " of 20 turns undone", Whole.dots(Whole.after(x -> {
                x.noise(20);
                for (int i = 0; i < undone; i++) {
                    due("more", x.undo(), 7 - i);
                }
            }), 1), Whole.dots(Whole.after(x -> x.noise(20 - undone)), 1));
        }
        MovedBlocks x = new MovedBlocks();
        x.seed(0);
        x.noise(1);
        due("a turn by which nothing is another one may be undone", x.count(7), 1);
        due("undone", x.undo(), 0);
        due("the draw", x.seed(1), 0);
    }

    private static void noiseLacks() {
        MovedBlocks x = new MovedBlocks();
        x.seed(0);
        due("none, for dot 0 becomes 0", x.noise(1), 0);
        MovedBlocks y = new MovedBlocks();
        due("one", y.noise(1), 1);
        MovedBlocks z = Dots.scene(Dots.all(9), Dots.all(8));
        due("all, for the dot becomes 5", z.noise(1), 96);
        for (int n : new int[] {1, 5, 40}) {
            MovedBlocks w = Dots.scene(Dots.drawn(n), Dots.drawn(n + 1));
            due("lacks after " + n, w.noise(n), w.count(3));
        }
    }

    private static void noiseBad() {
        for (int n : new int[] {0, 41, -1, LEAST, MOST}) {
            Whole.refused(n + " turns", x -> x.noise(n), BAD);
        }
    }

    // ---- promise 11

    private static void undone() {
        for (int n = 1; n <= 10; n++) {
            MovedBlocks x = new MovedBlocks();
            for (int i = 0; i < n; i++) {
                x.paint(i, 0, 1);
            }
            int known = Math.min(8, n);
            for (int i = known - 1; i >= 0; i--) {
                due("more of " + n, x.undo(), i);
            }
            due("none is left of " + n, x.undo(), NONE);
            for (int i = 0; i < n; i++) {
                due("dot " + i + " of " + n, x.dot(i, 0, 1), i < n - 8 ? 1 : 0);
            }
        }
    }

    private static void undoNone() {
        Whole.changesNothing("undo at first", Whole.NEW, MovedBlocks::undo, NONE);
        Whole.Run spent = x -> {
            Whole.full(x);
            for (int i = 0; i < 8; i++) {
                x.undo();
            }
        };
        Whole.changesNothing("undo of the ninth", spent, MovedBlocks::undo, NONE);
        Whole.Run told = x -> {
            Whole.full(x);
            x.picture();
            Whole.tell(x, "o");
        };
        Whole.changesNothing("undo of what was told", told, MovedBlocks::undo, NONE);
        MovedBlocks x = new MovedBlocks();
        x.seed(7);
        x.image();
        x.sheet(0, 0, 1);
        x.type('o');
        x.restore();
        due("none of these may be undone", x.undo(), NONE);
        due("the draw", x.seed(1), 7);
    }

    // ---- promise 12

    private static void drawBecomes() {
        MovedBlocks x = new MovedBlocks();
        int was = 1;
        for (int v : new int[] {0, 1, MOST, MOST - 1, 1 << 30, 65535, 65536, 0}) {
            due("it was", x.seed(v), was);
            was = v;
        }
        due("nothing may be undone", x.count(7), 0);
        Sentences.due("NOW", Whole.dots(x, 1), "0".repeat(96));
    }

    private static void seedBad() {
        for (int v : new int[] {-1, -2, LEAST}) {
            Whole.refused("seed " + v, x -> x.seed(v), BAD);
        }
    }
}
