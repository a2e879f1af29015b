/** Each promise by answers that were worked out by hand from the document. */
public final class PromisesTest {
    private static int wrong = 0;
    private static String part = "";

    private static final String LONE_OLD = "o r0 r0 r0 00000 9";
    private static final String LONE_NOW = "n r0 r0 r0 0000 9";

    public static void main(String[] args) {
        constants();
        newObject();
        type();
        picture();
        pictureFaults();
        pictureKeepsAndClears();
        dot();
        count();
        countBySquareAndMore();
        paint();
        shift();
        take();
        like();
        noise();
        undo();
        seed();
        cost();
        of();
        ofByDear();
        ofQuick();
        ofHalf();
        ofForetold();
        rebuilt();
        wrongDots();
        image();
        restore();
        found();
        film();
        sheet();
        drop();
        item();
        copy();
        refusedChangesNothing();
        System.out.println(wrong == 0 ? "all promises are kept" : wrong + " answers are not as due");
        if (wrong != 0) {
            System.exit(1);
        }
    }

    private static void due(String what, long got, long want) {
        if (got != want) {
            wrong++;
            System.out.println(part + ": " + what + " is " + got + ", due is " + want);
        }
    }

    private static int tell(MovedBlocks x, String text) {
        for (int i = 0; i < text.length(); i++) {
            due("type in " + text, x.type(text.charAt(i)), i + 1);
        }
        return x.picture();
    }

    /** One dot of 9 in OLD, and in NOW the same one column to the left: block 1 moves by 1, 0. */
    private static MovedBlocks lone() {
        MovedBlocks x = new MovedBlocks();
        due("old", tell(x, LONE_OLD), 42);
        due("now", tell(x, LONE_NOW), 41);
        return x;
    }

    private static int sumOf(MovedBlocks x, int what) {
        int sum = 0;
        for (int i = 0; i < 96; i++) {
            sum += x.dot(i % 12, i / 12, what);
        }
        return sum;
    }

    private static void constants() {
        part = "constants";
        due("BAD", MovedBlocks.BAD, -1000001);
        due("NOT", MovedBlocks.NOT, -1000002);
        due("FULL", MovedBlocks.FULL, -1000003);
        due("NONE", MovedBlocks.NONE, -1000004);
        due("NULL", MovedBlocks.NULL, -1000011);
        due("CAST", MovedBlocks.CAST, -1000012);
        due("INDEX", MovedBlocks.INDEX, -1000013);
        due("SIZE", MovedBlocks.SIZE, -1000014);
    }

    private static void newObject() {
        part = "1 a new object";
        MovedBlocks x = new MovedBlocks();
        due("old", sumOf(x, 0), 0);
        due("now", sumOf(x, 1), 0);
        due("kind", x.count(0), 0);
        due("known", x.count(7), 0);
        due("draw", x.seed(1), 1);
        due("image", x.restore(), MovedBlocks.NONE);
        due("undo", x.undo(), MovedBlocks.NONE);
        for (int i = 0; i < 4; i++) {
            due("sheet", x.drop(i), MovedBlocks.NULL);
        }
        due("tape", x.type('o'), 1);
    }

    private static void type() {
        part = "2 type";
        MovedBlocks x = new MovedBlocks();
        due("31", x.type(31), MovedBlocks.BAD);
        due("127", x.type(127), MovedBlocks.BAD);
        due("-1", x.type(-1), MovedBlocks.BAD);
        due("far", x.type(65536 + 'o'), MovedBlocks.BAD);
        due("32", x.type(32), 1);
        due("126", x.type(126), 2);
        for (int i = 3; i <= 120; i++) {
            due("more", x.type('o'), i);
        }
        due("full", x.type('o'), MovedBlocks.FULL);
        due("BAD is ahead of FULL", x.type(127), MovedBlocks.BAD);
        due("fault", x.picture(), -1000021);
        due("empty again", x.type('o'), 1);
    }

    private static void picture() {
        part = "3 picture";
        MovedBlocks x = new MovedBlocks();
        due("b", tell(x, "b12 3 r4 5"), 13);
        for (int what = 0; what < 2; what++) {
            due("0", x.dot(0, 0, what), 1);
            due("1", x.dot(1, 0, what), 2);
            due("2", x.dot(2, 0, what), 3);
            due("3", x.dot(3, 0, what), 4);
            due("11", x.dot(11, 0, what), 4);
            due("12", x.dot(0, 1, what), 5);
            due("13", x.dot(1, 1, what), 0);
        }
        due("whole rows", tell(x, " o r1r2 r 3r4r5r6r7r8 "), 96);
        for (int row = 0; row < 8; row++) {
            due("first", x.dot(0, row, 0), row + 1);
            due("last", x.dot(11, row, 0), row + 1);
        }
        due("now stays", sumOf(x, 1), 6 + 9 * 4 + 5);
        due("r for one", tell(x, "n12345678901r7"), 12);
        due("the one", x.dot(11, 0, 1), 7);
        due("none behind", x.dot(0, 1, 1), 0);
        due("nothing told", tell(x, "n"), 0);
        due("now is 0", sumOf(x, 1), 0);
        due("old stays", sumOf(x, 0), 12 * 36);
        due("blanks ahead, behind", tell(x, "  o  "), 0);
    }

    private static void pictureFaults() {
        part = "3 faults";
        MovedBlocks x = new MovedBlocks();
        String rows = "or1r1r1r1r1r1r1r1";
        due("nothing", x.picture(), -1000020);
        due("blanks", tell(x, "   "), -1000023);
        due("wrong first", tell(x, "x1"), -1000020);
        due("figure first", tell(x, "1"), -1000020);
        due("r first", tell(x, " r1"), -1000021);
        due("large letter", tell(x, "O1"), -1000020);
        due("behind blanks", tell(x, " o 1  a"), -1000026);
        due("second o", tell(x, "oo"), -1000021);
        due("r at the end", tell(x, "o1r"), -1000023);
        due("r, blank at the end", tell(x, "o1r "), -1000024);
        due("r twice", tell(x, "orr1"), -1000022);
        due("one more", tell(x, rows + "1"), -1000037);
        due("r more", tell(x, rows + "r1"), -1000037);
        due("one more behind blanks", tell(x, rows + "  1"), -1000039);
        due("slash", tell(x, "o/"), -1000021);
        due("colon", tell(x, "o:"), -1000021);
        due("old", sumOf(x, 0), 0);
    }

    private static void pictureKeepsAndClears() {
        part = "3 what stays";
        MovedBlocks x = new MovedBlocks();
        due("paint", x.paint(0, 0, 3), 0);
        due("like", x.like(2), 0);
        due("seed", x.seed(77), 1);
        due("fault", tell(x, "b1q"), -1000022);
        due("known stay", x.count(7), 2);
        due("now stays", x.dot(0, 0, 1), 3);
        due("told", tell(x, "o1"), 1);
        due("none known", x.count(7), 0);
        due("undo", x.undo(), MovedBlocks.NONE);
        due("now stays", x.dot(0, 0, 1), 3);
        due("kind stays", x.count(0), 2);
        due("draw stays", x.seed(1), 77);
    }

    private static void dot() {
        part = "4 dot";
        MovedBlocks x = new MovedBlocks();
        due("told", tell(x, "o1r2 r0 r0 r0 r0 r0 r0 3r4"), 96);
        due("corner", x.dot(-3, -3, 0), 1);
        due("corner", x.dot(14, -3, 0), 2);
        due("corner", x.dot(-3, 10, 0), 3);
        due("corner", x.dot(14, 10, 0), 4);
        due("side", x.dot(-1, 3, 0), 0);
        due("side", x.dot(5, -1, 0), 2);
        due("now", x.dot(0, 0, 1), 0);
        due("left", x.dot(-4, 0, 0), MovedBlocks.BAD);
        due("right", x.dot(15, 0, 0), MovedBlocks.BAD);
        due("above", x.dot(0, -4, 0), MovedBlocks.BAD);
        due("below", x.dot(0, 11, 0), MovedBlocks.BAD);
        due("what", x.dot(0, 0, -1), MovedBlocks.BAD);
        due("what", x.dot(0, 0, 2), MovedBlocks.BAD);
        due("far", x.dot(Integer.MIN_VALUE, Integer.MAX_VALUE, 0), MovedBlocks.BAD);
    }

    private static void count() {
        part = "5 count";
        MovedBlocks x = lone();
        due("kind", x.count(0), 0);
        due("costs", x.count(1), 0);
        due("long", x.count(2), 16);
        due("lacks", x.count(3), 0);
        due("pan", x.count(4), 25);
        due("pan costs", x.count(5), 0);
        due("not quick", x.count(6), 0);
        due("known", x.count(7), 0);
        due("-1", x.count(-1), MovedBlocks.BAD);
        due("8", x.count(8), MovedBlocks.BAD);
        due("paint", x.paint(0, 0, 9), 0);
        due("costs", x.count(1), 9);
        due("lacks", x.count(3), 1);
        due("pan", x.count(4), 25);
        due("pan costs", x.count(5), 9);
        due("known", x.count(7), 1);
    }

    private static void countBySquareAndMore() {
        part = "5 count by kinds";
        MovedBlocks x = lone();
        due("paint", x.paint(0, 0, 5), 0);
        due("paint", x.paint(2, 2, 2), 0);
        due("plain", x.count(1), 7);
        due("pan", x.count(5), 7);
        due("square", x.like(1), 0);
        due("costs", x.count(1), 25 + 4);
        due("pan", x.count(5), 29);
        due("edge", x.like(2), 1);
        due("costs", x.count(1), 10 + 2);
        due("pan", x.count(5), 12);
        due("dear", x.like(3), 2);
        due("costs", x.count(1), 7 + 2);
        due("pan is dear for each block", x.count(5), 7 + 6 * 2);
        due("pan", x.count(4), 25);
        due("steep", x.like(4), 3);
        due("costs", x.count(1), 9 + 4);
        due("pan", x.count(5), 13);
        due("kind", x.count(0), 4);
    }

    private static void paint() {
        part = "6 paint";
        MovedBlocks x = new MovedBlocks();
        due("first", x.paint(11, 7, 9), 0);
        due("again", x.paint(11, 7, 9), MovedBlocks.NOT);
        due("known", x.count(7), 1);
        due("other", x.paint(11, 7, 0), 9);
        due("known", x.count(7), 2);
        due("paint", x.paint(0, 0, 4), 0);
        due("now", x.dot(0, 0, 1), 4);
        due("old", x.dot(0, 0, 0), 0);
        due("column", x.paint(12, 0, 1), MovedBlocks.BAD);
        due("column", x.paint(-1, 0, 1), MovedBlocks.BAD);
        due("row", x.paint(0, 8, 1), MovedBlocks.BAD);
        due("row", x.paint(0, -1, 1), MovedBlocks.BAD);
        due("v", x.paint(0, 0, 10), MovedBlocks.BAD);
        due("v", x.paint(0, 0, -1), MovedBlocks.BAD);
        due("known", x.count(7), 3);
    }

    private static void shift() {
        part = "7 shift";
        MovedBlocks x = new MovedBlocks();
        due("told", tell(x, "n123456789r8"), 12);
        due("right, but for column 7 and the last three", x.shift(2, 0), 8);
        due("0", x.dot(0, 0, 1), 3);
        due("6", x.dot(6, 0, 1), 9);
        due("7", x.dot(7, 0, 1), 8);
        due("11", x.dot(11, 0, 1), 8);
        due("rows beyond are as the nearest", x.shift(0, -3), 36);
        due("row 3", x.dot(0, 3, 1), 3);
        due("row 4", x.dot(0, 4, 1), 0);
        due("old", sumOf(x, 0), 0);
        due("none", x.shift(0, 0), 0);
        due("known", x.count(7), 3);
        due("x", x.shift(4, 0), MovedBlocks.BAD);
        due("x", x.shift(-4, 0), MovedBlocks.BAD);
        due("y", x.shift(0, 4), MovedBlocks.BAD);
        due("y", x.shift(0, -4), MovedBlocks.BAD);
        due("known", x.count(7), 3);
    }

    private static void take() {
        part = "8 take";
        MovedBlocks x = lone();
        due("take", x.take(), 2);
        due("old", x.dot(4, 3, 0), 9);
        due("old", x.dot(5, 3, 0), 0);
        due("now stays", x.dot(4, 3, 1), 9);
        due("again", x.take(), 0);
        due("known", x.count(7), 2);
        due("paint", x.paint(0, 0, 1), 0);
        due("old is not now", x.dot(0, 0, 0), 0);
    }

    private static void like() {
        part = "9 like";
        MovedBlocks x = new MovedBlocks();
        due("4", x.like(4), 0);
        due("again", x.like(4), MovedBlocks.NOT);
        due("0", x.like(0), 4);
        due("again", x.like(0), MovedBlocks.NOT);
        due("-1", x.like(-1), MovedBlocks.BAD);
        due("5", x.like(5), MovedBlocks.BAD);
        due("known", x.count(7), 2);
    }

    private static void noise() {
        part = "10 noise";
        MovedBlocks x = new MovedBlocks();
        due("one", x.noise(1), 1);
        due("where", x.dot(2, 3, 1), 5);
        due("all", sumOf(x, 1), 5);
        due("draw", x.seed(1103527590), 1103527590);
        // 377401575 by 65536 is 5758: dot 94 becomes 59 left over by 10.
        due("the second", x.noise(1), 2);
        due("where", x.dot(10, 7, 1), 9);
        due("all", sumOf(x, 1), 14);
        due("old", sumOf(x, 0), 0);
        due("0", x.noise(0), MovedBlocks.BAD);
        due("41", x.noise(41), MovedBlocks.BAD);
        due("known", x.count(7), 2);
        x.noise(40);
        due("known", x.count(7), 8);
        due("lacks", x.noise(3), x.count(3));
    }

    private static void undo() {
        part = "11 undo";
        MovedBlocks x = new MovedBlocks();
        for (int i = 1; i <= 9; i++) {
            due("paint", x.paint(0, 0, i), i - 1);
        }
        for (int i = 7; i >= 0; i--) {
            due("undo", x.undo(), i);
            due("dot", x.dot(0, 0, 1), i + 1);
        }
        due("none", x.undo(), MovedBlocks.NONE);
        due("the oldest is lost", x.dot(0, 0, 1), 1);
        due("take", x.take(), 1);
        due("like", x.like(3), 0);
        due("seed", x.seed(99), 1);
        due("undo like", x.undo(), 1);
        due("kind", x.count(0), 0);
        due("draw as ahead of it", x.seed(1), 1);
        due("undo take", x.undo(), 0);
        due("old", x.dot(0, 0, 0), 0);
        x.noise(2);
        due("undo a turn", x.undo(), 1);
        due("draw", x.seed(1103527590), 1103527590);
        due("undo a turn", x.undo(), 0);
        due("draw", x.seed(1), 1);
        due("shift", x.shift(-3, -3), 15);
        due("undo shift", x.undo(), 0);
        due("now", sumOf(x, 1), 1);
    }

    private static void seed() {
        part = "12 seed";
        MovedBlocks x = new MovedBlocks();
        due("0", x.seed(0), 1);
        due("below", x.seed(-1), MovedBlocks.BAD);
        due("most", x.seed(Integer.MAX_VALUE), 0);
        due("stays", x.seed(5), Integer.MAX_VALUE);
        due("known", x.count(7), 0);
        x.seed(0);
        // 12345 by 65536 is 0: dot 0 becomes 0.
        due("noise", x.noise(1), 0);
        due("draw", x.seed(1), 12345);
    }

    private static void cost() {
        part = "13 cost";
        MovedBlocks x = lone();
        due("still", x.cost(1, 24), 18);
        due("found", x.cost(1, 25), 0);
        due("apart", x.cost(1, 17), 9);
        due("nothing there", x.cost(0, 24), 0);
        due("it comes in from the right", x.cost(0, 26), 9);
        due("like", x.like(1), 0);
        due("square", x.cost(1, 24), 162);
        due("like", x.like(2), 1);
        due("edge, both dots in the last row", x.cost(1, 24), 36);
        due("like", x.like(3), 2);
        due("dear", x.cost(1, 24), 18);
        due("dear", x.cost(1, 25), 2);
        due("dear", x.cost(5, 0), 12 + 9);
        due("like", x.like(4), 3);
        due("steep", x.cost(1, 24), 18);
        due("block", x.cost(6, 0), MovedBlocks.BAD);
        due("block", x.cost(-1, 0), MovedBlocks.BAD);
        due("move", x.cost(0, 49), MovedBlocks.BAD);
        due("move", x.cost(0, -1), MovedBlocks.BAD);
        inner();
    }

    private static void inner() {
        MovedBlocks x = new MovedBlocks();
        due("paint", x.paint(1, 1, 3), 0);
        due("paint", x.paint(0, 1, 2), 0);
        due("like", x.like(2), 0);
        due("within and at the edge", x.cost(0, 24), 3 + 4);
        due("like", x.like(4), 2);
        due("9 at most", x.cost(0, 24), 9 + 4);
        due("paint", x.paint(1, 1, 4), 3);
        due("9 at most", x.cost(0, 24), 9 + 4);
    }

    private static void of() {
        part = "14 of";
        MovedBlocks x = lone();
        due("best", x.of(1, 0), 25);
        due("cost", x.of(1, 1), 0);
        due("looks", x.of(1, 2), 16 + 16 + 13 + 16);
        due("left out", x.of(1, 3), 45);
        due("skimmed", x.of(1, 4), 61);
        due("quick", x.of(1, 5), 25);
        due("half", x.of(1, 6), 4);
        due("half costs", x.of(1, 7), 0);
        due("best", x.of(0, 0), 24);
        due("looks", x.of(0, 2), 16);
        due("left out", x.of(0, 3), 48);
        due("skimmed", x.of(0, 4), 16);
        due("like", x.like(1), 0);
        due("by square none is left out", x.of(1, 3), 0);
        due("skimmed", x.of(1, 4), 61);
        due("like", x.like(4), 1);
        due("by steep none is left out", x.of(1, 3), 0);
        due("block", x.of(6, 0), MovedBlocks.BAD);
        due("block", x.of(-1, 0), MovedBlocks.BAD);
        due("what", x.of(0, 10), MovedBlocks.BAD);
        due("what", x.of(0, -1), MovedBlocks.BAD);
    }

    private static void ofByDear() {
        part = "14 of by DEAR";
        MovedBlocks x = lone();
        due("like", x.like(3), 0);
        due("best", x.of(1, 0), 25);
        due("cost", x.of(1, 1), 2);
        due("looks", x.of(1, 2), 61);
        // 16 moves have the dot of 9 in OLD, too, so their sums tell nothing; move 17 was tried while 18 was the least.
        due("left out", x.of(1, 3), 49 - 16 - 1);
        due("skimmed", x.of(1, 4), 61);
        due("half is by PLAIN", x.of(1, 7), 0);
        due("rows", tell(x, "or9"), 12);
        due("rows", tell(x, "nr9"), 12);
        due("like", x.like(0), 3);
        due("paint", x.paint(0, 0, 0), 9);
        // Still costs 9; by all others sums are 9 or 27 and more apart, or they are as far as still.
        due("best", x.of(0, 0), 24);
        due("looks of the first", x.of(0, 2) - 16, looksOfOthers(x, 9));
    }

    /** Counted from dots and the document's words, for block 0 by PLAIN, where the first move stays the best. */
    private static int looksOfOthers(MovedBlocks x, int least) {
        int looks = 0;
        for (int move = 0; move < 49; move++) {
            int cost = 0;
            for (int i = 0; i < 16 && cost < least && move != 24; i++) {
                int there = x.dot(i % 4 + move % 7 - 3, i / 4 + move / 7 - 3, 0);
                cost += Math.abs(there - x.dot(i % 4, i / 4, 1));
                looks++;
            }
        }
        return looks;
    }

    private static void ofQuick() {
        part = "14 QUICK";
        MovedBlocks x = new MovedBlocks();
        // A half dot of 3 by 4 is 0: the half pictures are alike, so only moves of -1 .. 1 are tried.
        due("old", tell(x, "o r0 r0 r0 0000000 3"), 44);
        due("now", tell(x, "n r0 r0 r0 0000 3"), 41);
        due("best", x.of(1, 0), 27);
        due("cost", x.of(1, 1), 0);
        due("quick", x.of(1, 5), 17);
        due("what that costs", x.cost(1, 17), 3);
        due("not quick", x.count(6), 2);
        quickByTwo();
        quickAtTheEdge();
    }

    private static void quickByTwo() {
        MovedBlocks x = new MovedBlocks();
        due("old", tell(x, "o r0 r0 r0 0000000 9"), 44);
        due("now", tell(x, "n r0 r0 r0 0000 9"), 41);
        // Half dots of 2, one column apart: the half move is 1, 0, and 3, 0 is 1 more than twice that.
        due("quick", x.of(1, 5), 27);
        due("not quick", x.count(6), 0);
    }

    /** The half picture has its own edge: beyond it is a half dot of two columns, not of the last one alone. */
    private static void quickAtTheEdge() {
        MovedBlocks x = new MovedBlocks();
        due("old", tell(x, "o8 r0 8 r0 8 r0 8 r0"), 48);
        due("now", tell(x, "n4444 r0 4444 r0 4444 r0 4444 r0"), 48);
        // Half dots of OLD are 4, 0; of NOW 4, 4: by -1 in x both columns of OLD are the nearest one, 4.
        due("best", x.of(0, 0), 24);
        due("quick is around -2, the nearest of like ones", x.of(0, 5), 23);
    }

    private static void ofHalf() {
        part = "14 HALF";
        MovedBlocks x = new MovedBlocks();
        // NOW is between two columns of OLD: 4 and 8, the left of which is the best move's.
        due("old", tell(x, "o4444r8 4444r8 4444r8 4444r8 4444r8 4444r8 4444r8 4444r8"), 96);
        due("now", tell(x, "n4446r8 4446r8 4446r8 4446r8 4446r8 4446r8 4446r8 4446r8"), 96);
        due("best", x.of(0, 0), 24);
        due("cost", x.of(0, 1), 8);
        due("first of like ones, h 1", x.of(0, 6), 2);
        due("it costs nothing", x.of(0, 7), 0);
        MovedBlocks y = new MovedBlocks();
        due("old", tell(y, "o1"), 1);
        due("now", tell(y, "n1"), 1);
        // Halves beyond the edge are as the edge: 1 and 1 by 2; but the others are 0 all the same.
        due("up and left", y.of(0, 6), 0);
        due("nothing", y.of(0, 7), 0);
        halfOneWay("b4444r8 0000r4 4444r8 0000r4 4444r8 0000r4 4444r8 0000r4", 3, 0, 0, 1, 5);
        String low = "404040404040", high = "848484848484";
        halfOneWay("b" + low + low + low + low + high + high + high + high, 0, 3, 1, 0, 7);
    }

    /** In NOW the last column or row of block 0 is 2 more than in OLD, and rows or columns differ among themselves. */
    private static void halfOneWay(String text, int column, int row, int right, int down, int half) {
        MovedBlocks x = new MovedBlocks();
        due("both", tell(x, text), 96);
        for (int i = 0; i < 4; i++) {
            int c = column + i * right, r = row + i * down;
            int was = x.dot(c, r, 1);
            due("paint", x.paint(c, r, was + 2), was);
        }
        due("best", x.of(0, 0), 24);
        due("cost", x.of(0, 1), 8);
        due("half", x.of(0, 6), half);
        due("it costs nothing", x.of(0, 7), 0);
    }

    private static void ofForetold() {
        part = "14 FORETOLD";
        MovedBlocks x = lone();
        int[] xs = {0, 0, 1, 0, 0, 0};
        for (int block = 0; block < 6; block++) {
            due("x of " + block, x.of(block, 8), xs[block]);
            due("y of " + block, x.of(block, 9), 0);
        }
        foretoldOfThree();
    }

    /** OLD has a dot within each block, NOW has it moved, each by another way. */
    private static void foretoldOfThree() {
        MovedBlocks x = new MovedBlocks();
        int[] xs = {1, -1, 0, 1, -1, 1};
        int[] ys = {0, 1, -1, -1, 0, 1};
        for (int block = 0; block < 6; block++) {
            due("paint", x.paint(block % 3 * 4 + 1, block / 3 * 4 + 1, block + 3), 0);
        }
        due("take", x.take(), 6);
        for (int block = 0; block < 6; block++) {
            int column = block % 3 * 4 + 1, row = block / 3 * 4 + 1;
            due("paint", x.paint(column, row, 0), block + 3);
            due("paint", x.paint(column - xs[block], row - ys[block], block + 3), 0);
        }
        for (int block = 0; block < 6; block++) {
            due("best of " + block, x.of(block, 0), 7 * (ys[block] + 3) + xs[block] + 3);
        }
        // Left; left; the lesser of 1, -1 (0, 1); of 1, -1, 0 (-1, 1, -1); the lesser of -1, 0 (0, -1).
        int[] xsTold = {0, 1, -1, -1, 0, -1};
        int[] ysTold = {0, 0, 1, 0, -1, -1};
        for (int block = 0; block < 6; block++) {
            due("x of " + block, x.of(block, 8), xsTold[block]);
            due("y of " + block, x.of(block, 9), ysTold[block]);
        }
        // x differs by 1, -2, 1, 2, -1, 2: 3, 5, 3, 5, 3, 5; y by 0, 1, -2, -1, 1, 2: 1, 3, 5, 3, 3, 5.
        due("long", x.count(2), 24 + 20);
    }

    private static void rebuilt() {
        part = "15 rebuilt";
        MovedBlocks x = lone();
        due("moved", x.rebuilt(4, 3), 9);
        due("beside", x.rebuilt(5, 3), 0);
        due("paint", x.paint(4, 3, 8), 9);
        due("from OLD", x.rebuilt(4, 3), 9);
        due("last", x.rebuilt(11, 7), 0);
        due("column", x.rebuilt(12, 0), MovedBlocks.BAD);
        due("column", x.rebuilt(-1, 0), MovedBlocks.BAD);
        due("row", x.rebuilt(0, 8), MovedBlocks.BAD);
        due("row", x.rebuilt(0, -1), MovedBlocks.BAD);
    }

    private static void wrongDots() {
        part = "16 wrong";
        MovedBlocks x = new MovedBlocks();
        // Block 0 leaves the dot of 9 out by move 17; a wrong dot of the first row is found in it by another one.
        due("old", tell(x, "o r0 r0 r0 000 9"), 40);
        due("best", x.of(0, 0), 17);
        due("1 of 1", x.wrong(1, 4, 0), 2);
        due("1 of 1", x.wrong(1, 4, 1), 5);
        due("3", x.wrong(3, 5, 0), 7);
        due("3", x.wrong(3, 5, 1), 8);
        for (int n = 4; n <= 6; n++) {
            due("dots 4, 5 are of block 1", x.wrong(n, 5, 0), 15);
            due("dots 4, 5 are of block 1", x.wrong(n, 5, 1), 16);
        }
        due("2 by 3 of 10", x.wrong(2, 3, 0), 51);
        due("2 by 3 of 10", x.wrong(2, 3, 1), 100);
        due("surely", x.wrong(2, 10, 0), 1);
        due("surely", x.wrong(2, 10, 1), 1);
        due("never", x.wrong(6, 0, 0), 0);
        due("never", x.wrong(6, 0, 1), 1);
        due("none", x.wrong(0, 10, 0), 0);
        due("none", x.wrong(0, 10, 1), 1);
        due("now", sumOf(x, 1), 0);
        due("best", x.of(0, 0), 17);
        due("n", x.wrong(7, 0, 0), MovedBlocks.BAD);
        due("n", x.wrong(-1, 0, 0), MovedBlocks.BAD);
        due("c", x.wrong(0, 11, 0), MovedBlocks.BAD);
        due("c", x.wrong(0, -1, 0), MovedBlocks.BAD);
        due("what", x.wrong(0, 0, 2), MovedBlocks.BAD);
        due("what", x.wrong(0, 0, -1), MovedBlocks.BAD);
    }

    private static void image() {
        part = "17 image";
        MovedBlocks x = lone();
        due("like", x.like(3), 0);
        due("seed", x.seed(7), 1);
        due("image", x.image(), 1);
        due("told", tell(x, "b5"), 1);
        due("like", x.like(1), 3);
        x.noise(20);
        due("restore", x.restore(), 1);
        due("old", sumOf(x, 0), 9);
        due("now", x.dot(4, 3, 1), 9);
        due("all of now", sumOf(x, 1), 9);
        due("kind", x.count(0), 3);
        due("known", x.count(7), 1);
        due("draw", x.seed(8), 7);
        due("undo", x.undo(), 0);
        due("kind", x.count(0), 0);
        due("the other image", x.image(), 1);
        due("like", x.like(2), 0);
        due("restore", x.restore(), 1);
        due("kind", x.count(0), 0);
        due("known", x.count(7), 0);
    }

    private static void restore() {
        part = "18 restore";
        MovedBlocks x = new MovedBlocks();
        due("none", x.restore(), MovedBlocks.NONE);
        due("image", x.image(), 1);
        due("sheet", x.sheet(0, 2, 5), 5);
        due("type", x.type('n'), 1);
        due("paint", x.paint(0, 0, 1), 0);
        due("restore", x.restore(), 1);
        due("now", x.dot(0, 0, 1), 0);
        due("sheets stay", x.drop(0), 5);
        due("the tape stays", x.type('1'), 2);
        due("tape", x.picture(), 1);
        due("image stays", x.restore(), 1);
        due("now", x.dot(0, 0, 1), 0);
        for (int i = 1; i <= 8; i++) {
            due("paint", x.paint(0, 0, i), i - 1);
        }
        due("image", x.image(), 1);
        x.noise(8);
        due("restore", x.restore(), 1);
        for (int i = 7; i >= 0; i--) {
            due("undo", x.undo(), i);
            due("dot", x.dot(0, 0, 1), i);
        }
    }

    private static void found() {
        part = "19 found";
        MovedBlocks x = new MovedBlocks();
        // By DEAR a move of 1 costs as much as staying.
        due("old", tell(x, "o r0 r0 r0 00000 1"), 42);
        due("now", tell(x, "n r0 r0 r0 0000 1"), 41);
        due("sheet", x.sheet(3, 0, 7), 7);
        due("item", x.item(3, 0, 1, 24), 1);
        due("item", x.item(3, 0, 2, 25 + 256), 1);
        due("0", x.found(3, 0, 1, 1), 31);
        due("0, 1", x.found(3, 0, 1, 2), 23);
        due("item", x.item(3, 0, 2, 24), 1);
        due("0, 1", x.found(3, 0, 1, 2), 8);
        due("no move", x.item(3, 0, 2, -1), 1);
        due("0, 1", x.found(3, 0, 1, 2), 0);
        due("six", x.found(3, 0, 1, 6), 0);
        due("index", x.found(3, 0, 2, 6), MovedBlocks.INDEX);
        due("index", x.found(3, 0, -1, 1), MovedBlocks.INDEX);
        due("index", x.found(3, 0, 7, 1), MovedBlocks.INDEX);
        due("index", x.found(3, 0, Integer.MAX_VALUE, 6), MovedBlocks.INDEX);
        due("cast is ahead", x.found(3, 1, 9, 1), MovedBlocks.CAST);
        due("null is ahead", x.found(2, 1, 9, 1), MovedBlocks.NULL);
        due("n", x.found(2, 0, 0, 0), MovedBlocks.BAD);
        due("n", x.found(2, 0, 0, 7), MovedBlocks.BAD);
        due("sheet", x.found(4, 0, 0, 1), MovedBlocks.BAD);
        due("sheet", x.found(-1, 0, 0, 1), MovedBlocks.BAD);
        due("lane", x.found(3, 4, 0, 1), MovedBlocks.BAD);
        due("lane", x.found(3, -1, 0, 1), MovedBlocks.BAD);
        due("longs", x.sheet(0, 3, 1), 1);
        due("item", x.item(0, 3, 0, 24 + (1L << 32)), 1);
        due("another long", x.found(0, 3, 0, 1), 0);
        due("kind stays", x.count(0), 0);
    }

    private static void film() {
        part = "20 film";
        MovedBlocks x = lone();
        due("sheet", x.sheet(1, 1, 8), 8);
        due("film", x.film(6, 1, 1, 2), 6);
        due("found", x.found(1, 1, 2, 6), 31);
        due("not a place off", x.found(1, 1, 1, 6), 0);
        due("like", x.like(3), 0);
        due("told", tell(x, "o r0 r0 r0 00000 1"), 42);
        due("told", tell(x, "n r0 r0 r0 0000 1"), 41);
        due("film by DEAR", x.film(2, 1, 1, 0), 2);
        due("found", x.found(1, 1, 0, 2), 8);
        due("index", x.film(6, 1, 1, 3), MovedBlocks.INDEX);
        due("nothing changed", x.found(1, 1, 0, 2), 8);
        due("index", x.film(1, 1, 1, -1), MovedBlocks.INDEX);
        due("cast", x.film(1, 1, 0, -1), MovedBlocks.CAST);
        due("null", x.film(1, 0, 0, -1), MovedBlocks.NULL);
        due("n", x.film(0, 0, 0, 0), MovedBlocks.BAD);
        due("n", x.film(7, 0, 0, 0), MovedBlocks.BAD);
        due("sheet", x.film(1, 4, 0, 0), MovedBlocks.BAD);
        due("sheet", x.film(1, -1, 0, 0), MovedBlocks.BAD);
        due("lane", x.film(1, 0, 4, 0), MovedBlocks.BAD);
        due("lane", x.film(1, 0, -1, 0), MovedBlocks.BAD);
    }

    private static void sheet() {
        part = "21 sheet";
        MovedBlocks x = new MovedBlocks();
        due("24", x.sheet(0, 0, 24), 24);
        due("0", x.sheet(1, 3, 0), 0);
        due("25", x.sheet(0, 0, 25), MovedBlocks.BAD);
        due("-1", x.sheet(0, 0, -1), MovedBlocks.SIZE);
        due("sheet, -1", x.sheet(4, 0, -1), MovedBlocks.BAD);
        due("sheet", x.sheet(-1, 0, 0), MovedBlocks.BAD);
        due("lane", x.sheet(0, 4, 0), MovedBlocks.BAD);
        due("lane", x.sheet(0, -1, 0), MovedBlocks.BAD);
        due("item", x.item(0, 0, 0, 24), 1);
        due("found", x.found(0, 0, 0, 1), 31);
        due("a new one", x.sheet(0, 0, 24), 24);
        due("all 0", x.found(0, 0, 0, 1), 0);
        due("another lane", x.sheet(0, 2, 1), 1);
        due("cast", x.item(0, 0, 0, 1), MovedBlocks.CAST);
    }

    private static void drop() {
        part = "22 drop";
        MovedBlocks x = new MovedBlocks();
        due("sheet", x.sheet(2, 2, 24), 24);
        due("empty", x.sheet(3, 1, 0), 0);
        due("drop", x.drop(2), 24);
        due("again", x.drop(2), MovedBlocks.NULL);
        due("item", x.item(2, 2, 0, 1), MovedBlocks.NULL);
        due("drop", x.drop(3), 0);
        due("again", x.drop(3), MovedBlocks.NULL);
        due("4", x.drop(4), MovedBlocks.BAD);
        due("-1", x.drop(-1), MovedBlocks.BAD);
    }

    private static void item() {
        part = "23 item";
        MovedBlocks x = new MovedBlocks();
        long[] over = {24 + (1L << 8), 24 + (1L << 16), 24 + (1L << 32)};
        for (int lane = 0; lane < 3; lane++) {
            due("sheet", x.sheet(0, lane, 1), 1);
            due("lowest bits", x.item(0, lane, 0, over[lane]), 1);
            due("found", x.found(0, lane, 0, 1), 31);
        }
        for (int lane = 1; lane < 4; lane++) {
            due("sheet", x.sheet(0, lane, 1), 1);
            due("all bits", x.item(0, lane, 0, over[lane - 1]), 1);
            due("found", x.found(0, lane, 0, 1), 0);
        }
        due("a long", x.item(0, 3, 0, 24), 1);
        due("found", x.found(0, 3, 0, 1), 31);
        due("index", x.item(0, 3, 1, 0), MovedBlocks.INDEX);
        due("index", x.item(0, 3, -1, 0), MovedBlocks.INDEX);
        due("cast", x.item(0, 0, -1, 0), MovedBlocks.CAST);
        due("null", x.item(1, 0, -1, 0), MovedBlocks.NULL);
        due("sheet", x.item(4, 0, 0, 0), MovedBlocks.BAD);
        due("sheet", x.item(-1, 0, 0, 0), MovedBlocks.BAD);
        due("lane", x.item(0, 4, 0, 0), MovedBlocks.BAD);
        due("lane", x.item(0, -1, 0, 0), MovedBlocks.BAD);
        due("empty", x.sheet(0, 0, 0), 0);
        due("index", x.item(0, 0, 0, 0), MovedBlocks.INDEX);
    }

    private static void copy() {
        part = "24 copy";
        MovedBlocks x = new MovedBlocks();
        due("sheet", x.sheet(0, 2, 4), 4);
        due("sheet", x.sheet(1, 2, 2), 2);
        due("sheet", x.sheet(2, 1, 2), 2);
        due("item", x.item(0, 2, 0, 24), 1);
        due("over itself", x.copy(0, 0, 0, 1, 3), 3);
        due("only the first was 24", x.found(0, 2, 1, 1), 31);
        due("only the first was 24", x.found(0, 2, 2, 1), 0);
        due("to another", x.copy(0, 1, 1, 1, 1), 1);
        due("there", x.found(1, 2, 1, 1), 31);
        due("not there", x.found(1, 2, 0, 1), 0);
        due("none", x.copy(0, 4, 1, 2, 0), 0);
        due("from", x.copy(0, 5, 1, 0, 0), MovedBlocks.INDEX);
        due("to", x.copy(0, 0, 1, 3, 0), MovedBlocks.INDEX);
        due("below", x.copy(0, -1, 1, 0, 1), MovedBlocks.INDEX);
        due("below", x.copy(0, 0, 1, -1, 1), MovedBlocks.INDEX);
        due("n below", x.copy(0, 0, 1, 0, -1), MovedBlocks.INDEX);
        due("too many there", x.copy(0, 0, 1, 0, 3), MovedBlocks.INDEX);
        due("too many here", x.copy(1, 0, 0, 0, 3), MovedBlocks.INDEX);
        due("far", x.copy(0, 2, 1, 2, Integer.MAX_VALUE), MovedBlocks.INDEX);
        due("cast", x.copy(0, -1, 2, 0, 1), MovedBlocks.CAST);
        due("null", x.copy(0, -1, 3, 0, 1), MovedBlocks.NULL);
        due("null", x.copy(3, -1, 0, 0, 1), MovedBlocks.NULL);
        due("from", x.copy(4, 0, 0, 0, 1), MovedBlocks.BAD);
        due("from", x.copy(-1, 0, 0, 0, 1), MovedBlocks.BAD);
        due("to", x.copy(3, 0, 4, 0, 1), MovedBlocks.BAD);
        due("to", x.copy(3, 0, -1, 0, 1), MovedBlocks.BAD);
    }

    private static void refusedChangesNothing() {
        part = "what is refused";
        MovedBlocks x = lone();
        due("paint", x.paint(4, 3, 9), MovedBlocks.NOT);
        due("like", x.like(0), MovedBlocks.NOT);
        due("shift", x.shift(4, 0), MovedBlocks.BAD);
        due("noise", x.noise(41), MovedBlocks.BAD);
        due("known", x.count(7), 0);
        due("now", sumOf(x, 1), 9);
        due("draw", x.seed(1), 1);
    }
}
