import java.io.IOException;
import java.util.Arrays;

/** Promises 19 to 24, sheets, sentence by sentence. In Whole.FULL sheet 0 has 3 bytes, 1 has 8 longs, 2 nothing, 3 no ints. */
public final class Sentences19To24Test {
    private static final int BAD = -1000001, NULL = -1000011, CAST = -1000012, INDEX = -1000013, SIZE = -1000014;
    private static final int LEAST = Integer.MIN_VALUE, MOST = Integer.MAX_VALUE;

    public static void main(String[] args) throws IOException {
        Sentences s = new Sentences();
        s.promise(19);
        s.says("FOUND by n items of a SHEET taken as a row of a LANE,", Sentences19To24Test::found);
        s.says("from item i on.", Sentences19To24Test::foundFrom);
        s.says("BAD;", Sentences19To24Test::foundBad);
        s.says("NULL;", Sentences19To24Test::foundNull);
        s.says("CAST;", Sentences19To24Test::foundCast);
        s.says("INDEX.", Sentences19To24Test::foundIndex);
        s.promise(20);
        s.says("BEST MOVES of BLOCKS 0, 1, .. (n of them, 1 .. 6), an item each, come to a SHEET likewise:",
            Sentences19To24Test::film);
        s.says("n. BAD;", Sentences19To24Test::filmBad);
        s.says("NULL;", Sentences19To24Test::filmNull);
        s.says("CAST;", Sentences19To24Test::filmCast);
        s.says("INDEX.", Sentences19To24Test::filmIndex);
        s.promise(21);
        s.says("A SHEET holds a new row of a LANE: n.", Sentences19To24Test::newRow);
        s.says("BAD: also n above 24;", Sentences19To24Test::sheetBad);
        s.says("SIZE: n below 0.", Sentences19To24Test::sheetSize);
        s.promise(22);
        s.says("A SHEET holds nothing: how many items it had.", Sentences19To24Test::dropped);
        s.says("BAD;", Sentences19To24Test::dropBad);
        s.says("NULL.", Sentences19To24Test::dropNull);
        s.promise(23);
        s.says("Item i of a SHEET, taken as a row of a LANE, becomes v,", Sentences19To24Test::itemBecomes);
        s.says("its lowest bits: 1.", Sentences19To24Test::lowestBits);
        s.says("BAD;", Sentences19To24Test::itemBad);
        s.says("NULL;", Sentences19To24Test::itemNull);
        s.says("CAST;", Sentences19To24Test::itemCast);
        s.says("INDEX.", Sentences19To24Test::itemIndex);
        s.promise(24);
        s.says("n items of a SHEET from i on come to another one (or the same) from j on,", Sentences19To24Test::copied);
        s.says("as if all were taken ahead: n.", Sentences19To24Test::copiedOverItself);
        s.says("BAD;", Sentences19To24Test::copyBad);
        s.says("NULL (either);", Sentences19To24Test::copyNull);
        s.says("CAST: of unlike LANES;", Sentences19To24Test::copyCast);
        s.says("INDEX.", Sentences19To24Test::copyIndex);
        s.finish();
    }

    private static void due(String what, long got, long want) {
        Sentences.due(what, got, want);
    }

    /** All items of a sheet after a run, as moves; -1 where one is no move. Takes up to 35 calls beside the run's. */
    private static int[] items(Whole.Run run, int sheet, int lane, int n) {
        int[] items = new int[n];
        Arrays.fill(items, -1);
        for (int move = 0; move < 49; move++) {
            MovedBlocks x = Whole.after(run);
            Whole.findBy(x, move);
            for (int i = 0; i < n; i++) {
                int kinds = x.found(sheet, lane, i, 1);
                if (kinds != 0) {
                    due("item " + i + " as " + move, kinds, 31);
                    due("item " + i + " is one move", items[i], -1);
                    items[i] = move;
                }
            }
        }
        return items;
    }

    private static void dueItems(String what, Whole.Run run, int sheet, int lane, int... due) {
        Sentences.due(what, Arrays.toString(items(run, sheet, lane, due.length)), Arrays.toString(due));
        due("items of " + what, Whole.after(run).drop(sheet), due.length);
    }

    private static void fill(MovedBlocks x, int sheet, int lane, int... values) {
        due("sheet", x.sheet(sheet, lane, values.length), values.length);
        for (int i = 0; i < values.length; i++) {
            due("item", x.item(sheet, lane, i, values[i]), 1);
        }
    }

    // ---- promise 19

    private static final int[] MIXED = {8, 40, 24, 3, 27, 46};

    /** A drawn OLD, and NOW by MIXED moves. */
    private static MovedBlocks mixed() {
        int[] old = Dots.drawn(13);
        return Dots.scene(old, Dots.moved(old, MIXED));
    }

    private static void found() {
        for (int lane = 0; lane < 4; lane++) {
            for (int sheet = 0; sheet < 4; sheet++) {
                MovedBlocks x = mixed();
                fill(x, sheet, lane, MIXED);
                for (int n = 1; n <= 6; n++) {
                    due(n + " of lane " + lane, x.found(sheet, lane, 0, n), 31);
                }
                for (int other = 5; other >= 0; other--) {
                    x.item(sheet, lane, other, MIXED[other] + 1);
                    due("all but " + other, x.found(sheet, lane, 0, 6), 0);
                    due("those ahead of " + other, other == 0 ? 31 : x.found(sheet, lane, 0, other), 31);
                }
            }
        }
    }

    private static void foundFrom() {
        MovedBlocks x = mixed();
        int[] row = new int[24];
        System.arraycopy(MIXED, 0, row, 18, 6);
        fill(x, 2, 1, row);
        for (int i = 0; i <= 18; i++) {
            due("from " + i, x.found(2, 1, i, 6), i == 18 ? 31 : 0);
        }
        due("blocks are 0, 1, .. wherever the row begins", x.found(2, 1, 19, 1), 0);
        x.item(2, 1, 23, MIXED[0]);
        due("the last item", x.found(2, 1, 23, 1), 31);
    }

    private static void foundBad() {
        for (int sheet : new int[] {-1, 4, LEAST, MOST}) {
            Whole.refused("sheet " + sheet, x -> x.found(sheet, 0, 0, 1), BAD);
        }
        for (int lane : new int[] {-1, 4, LEAST, MOST}) {
            Whole.refused("lane " + lane, x -> x.found(0, lane, 0, 1), BAD);
        }
        for (int n : new int[] {0, 7, -1, LEAST, MOST}) {
            Whole.refused("n " + n, x -> x.found(0, 0, 0, n), BAD);
        }
        Whole.refused("ahead of NULL", x -> x.found(2, 4, 0, 1), BAD);
        Whole.refused("ahead of CAST", x -> x.found(0, 1, 0, 7), BAD);
        Whole.refused("ahead of INDEX", x -> x.found(0, 0, -1, 0), BAD);
        Whole.changesNothing("found", Whole.FULL, x -> x.found(1, 3, 2, 6));
    }

    private static void foundNull() {
        for (int lane = 0; lane < 4; lane++) {
            int asked = lane;
            Whole.refused("nothing as lane " + lane, x -> x.found(2, asked, 0, 1), NULL);
        }
        Whole.refused("ahead of INDEX", x -> x.found(2, 0, -1, 6), NULL);
    }

    private static void foundCast() {
        for (int lane = 1; lane < 4; lane++) {
            int asked = lane;
            Whole.changesNothing("bytes as lane " + lane, Whole.FULL, x -> x.found(0, asked, 0, 1), CAST);
        }
        Whole.changesNothing("longs as ints", Whole.FULL, x -> x.found(1, 2, 0, 1), CAST);
        Whole.changesNothing("no ints as bytes, ahead of INDEX", Whole.FULL, x -> x.found(3, 0, 0, 1), CAST);
        Whole.changesNothing("ahead of INDEX", Whole.FULL, x -> x.found(0, 1, 3, 1), CAST);
    }

    private static void foundIndex() {
        for (int n = 1; n <= 6; n++) {
            int asked = n;
            due(n + " at the end", Math.min(0, Whole.after(Whole.FULL).found(1, 3, 8 - n, n)), 0);
            Whole.changesNothing(n + " beyond the end", Whole.FULL, x -> x.found(1, 3, 9 - asked, asked), INDEX);
            Whole.changesNothing(n + " ahead of the row", Whole.FULL, x -> x.found(1, 3, -1, asked), INDEX);
        }
        Whole.changesNothing("none of no items", Whole.FULL, x -> x.found(3, 2, 0, 1), INDEX);
        Whole.changesNothing("more than there are", Whole.FULL, x -> x.found(0, 0, 0, 4), INDEX);
        for (int i : new int[] {LEAST, MOST, MOST - 5, -6}) {
            Whole.changesNothing("from " + i, Whole.FULL, x -> x.found(1, 3, i, 6), INDEX);
        }
    }

    // ---- promise 20

    private static void film() {
        int[] old = Dots.drawn(13);
        for (int n = 1; n <= 6; n++) {
            int lane = n % 4, count = n;
            for (int i : new int[] {0, 1, 9 - n}) {
                int[] due = new int[9];
                Arrays.fill(due, 48);
                System.arraycopy(MIXED, 0, due, i, n);
                dueItems(n + " from " + i, x -> {
                    due("told", Dots.tell(x, 'o', old), 96);
                    due("told", Dots.tell(x, 'n', Dots.moved(old, MIXED)), 96);
                    fill(x, 3, lane, 48, 48, 48, 48, 48, 48, 48, 48, 48);
                    due("film", x.film(count, 3, lane, i), count);
                }, 3, lane, due);
            }
        }
        MovedBlocks x = mixed();
        x.sheet(0, 0, 24);
        due("the last place", x.film(6, 0, 0, 18), 6);
        due("is found", x.found(0, 0, 18, 6), 31);
        due("nothing may be undone", x.count(7), 0);
        for (int kind = 0; kind < 5; kind++) {
            MovedBlocks y = Dots.scene(Dots.drawn(14), Dots.drawn(15));
            y.like(kind);
            y.sheet(0, 2, 6);
            due("film by the kind that it is", y.film(6, 0, 2, 0), 6);
            due("found by that kind", y.found(0, 2, 0, 6) >> kind & 1, 1);
        }
    }

    private static void filmBad() {
        for (int n : new int[] {0, 7, -1, LEAST, MOST}) {
            Whole.refused("n " + n, x -> x.film(n, 1, 3, 0), BAD);
        }
        for (int sheet : new int[] {-1, 4, LEAST, MOST}) {
            Whole.refused("sheet " + sheet, x -> x.film(1, sheet, 0, 0), BAD);
        }
        for (int lane : new int[] {-1, 4, LEAST, MOST}) {
            Whole.refused("lane " + lane, x -> x.film(1, 0, lane, 0), BAD);
        }
        Whole.refused("ahead of NULL", x -> x.film(7, 2, 0, 0), BAD);
        Whole.refused("ahead of CAST", x -> x.film(0, 0, 1, 0), BAD);
        Whole.refused("ahead of INDEX", x -> x.film(7, 0, 0, -1), BAD);
    }

    private static void filmNull() {
        for (int lane = 0; lane < 4; lane++) {
            int asked = lane;
            Whole.refused("nothing as lane " + lane, x -> x.film(1, 2, asked, 0), NULL);
        }
        Whole.refused("ahead of INDEX", x -> x.film(6, 2, 0, -1), NULL);
    }

    private static void filmCast() {
        for (int lane = 0; lane < 3; lane++) {
            int asked = lane;
            Whole.changesNothing("longs as lane " + lane, Whole.FULL, x -> x.film(1, 1, asked, 0), CAST);
        }
        Whole.changesNothing("bytes as shorts", Whole.FULL, x -> x.film(1, 0, 1, 0), CAST);
        Whole.changesNothing("ahead of INDEX", Whole.FULL, x -> x.film(6, 0, 3, 3), CAST);
    }

    private static void filmIndex() {
        for (int n = 1; n <= 6; n++) {
            int asked = n;
            due(n + " at the end", Whole.after(Whole.FULL).film(n, 1, 3, 8 - n), n);
            Whole.changesNothing(n + " beyond the end", Whole.FULL, x -> x.film(asked, 1, 3, 9 - asked), INDEX);
            Whole.changesNothing(n + " ahead of the row", Whole.FULL, x -> x.film(asked, 1, 3, -1), INDEX);
        }
        Whole.changesNothing("into no items", Whole.FULL, x -> x.film(1, 3, 2, 0), INDEX);
        Whole.changesNothing("more than there is room for", Whole.FULL, x -> x.film(4, 0, 0, 0), INDEX);
        for (int i : new int[] {LEAST, MOST, MOST - 5, -6}) {
            Whole.changesNothing("from " + i, Whole.FULL, x -> x.film(6, 1, 3, i), INDEX);
        }
    }

    // ---- promise 21

    private static void newRow() {
        for (int lane = 0; lane < 4; lane++) {
            int asked = lane;
            for (int n : new int[] {0, 1, 23, 24}) {
                MovedBlocks x = new MovedBlocks();
                for (int sheet = 0; sheet < 4; sheet++) {
                    due(n + " items", x.sheet(sheet, lane, n), n);
                }
                due("the first beyond", x.item(3, lane, n, 1), INDEX);
                due("the last", n == 0 ? 1 : x.item(3, lane, n - 1, 1), 1);
                due("dropped", x.drop(3), n);
            }
            dueItems("all are 0", x -> x.sheet(1, asked, 4), 1, lane, 0, 0, 0, 0);
            dueItems("a new row instead", x -> {
                fill(x, 1, asked, 24, 24, 24, 24);
                x.sheet(1, asked, 2);
            }, 1, lane, 0, 0);
            dueItems("a longer one instead", x -> {
                fill(x, 1, asked, 24, 24);
                x.sheet(1, asked, 4);
            }, 1, lane, 0, 0, 0, 0);
            dueItems("behind a dropped one", x -> {
                fill(x, 1, asked, 24, 24);
                x.drop(1);
                x.sheet(1, asked, 2);
            }, 1, lane, 0, 0);
            dueItems("of another lane", x -> {
                fill(x, 1, (asked + 1) % 4, 24, 24);
                x.sheet(1, asked, 2);
            }, 1, lane, 0, 0);
            dueItems("another sheet stays", x -> {
                fill(x, 1, asked, 24, 25);
                x.sheet(0, asked, 2);
                x.sheet(2, asked, 2);
            }, 1, lane, 24, 25);
        }
    }

    private static void sheetBad() {
        for (int sheet : new int[] {-1, 4, LEAST, MOST}) {
            Whole.refused("sheet " + sheet, x -> x.sheet(sheet, 0, 1), BAD);
        }
        for (int lane : new int[] {-1, 4, LEAST, MOST}) {
            Whole.refused("lane " + lane, x -> x.sheet(0, lane, 1), BAD);
        }
        for (int n : new int[] {25, 26, MOST}) {
            Whole.refused("n " + n, x -> x.sheet(0, 0, n), BAD);
        }
        due("24", new MovedBlocks().sheet(0, 0, 24), 24);
        Whole.refused("a sheet ahead of SIZE", x -> x.sheet(4, 0, -1), BAD);
        Whole.refused("a lane ahead of SIZE", x -> x.sheet(0, -1, -1), BAD);
    }

    private static void sheetSize() {
        for (int n : new int[] {-1, -24, LEAST}) {
            for (int sheet = 0; sheet < 4; sheet++) {
                int asked = sheet;
                Whole.refused("n " + n, x -> x.sheet(asked, 3, n), SIZE);
            }
        }
        due("0", new MovedBlocks().sheet(0, 0, 0), 0);
    }

    // ---- promise 22

    private static void dropped() {
        for (int n : new int[] {0, 1, 23, 24}) {
            MovedBlocks x = new MovedBlocks();
            x.sheet(1, 2, n);
            due("items", x.drop(1), n);
            due("nothing is held", x.item(1, 2, 0, 0), NULL);
            due("nothing is held", x.drop(1), NULL);
        }
        MovedBlocks x = Whole.after(Whole.FULL);
        due("sheet 0", x.drop(0), 3);
        due("sheet 1 stays", x.drop(1), 8);
        due("sheet 3 stays", x.drop(3), 0);
    }

    private static void dropBad() {
        for (int sheet : new int[] {-1, 4, LEAST, MOST}) {
            Whole.refused("sheet " + sheet, x -> x.drop(sheet), BAD);
        }
    }

    private static void dropNull() {
        for (int sheet = 0; sheet < 4; sheet++) {
            int asked = sheet;
            Whole.changesNothing("sheet " + sheet, Whole.NEW, x -> x.drop(asked), NULL);
        }
        Whole.changesNothing("sheet 2", Whole.FULL, x -> x.drop(2), NULL);
        due("a row of no items is something", Whole.after(Whole.FULL).drop(3), 0);
    }

    // ---- promise 23

    private static void itemBecomes() {
        for (int lane = 0; lane < 4; lane++) {
            int asked = lane;
            for (int at = 0; at < 3; at++) {
                int i = at;
                int[] due = {7, 8, 9};
                due[i] = 24;
                dueItems("item " + i, x -> {
                    fill(x, 2, asked, 7, 8, 9);
                    due("item", x.item(2, asked, i, 24), 1);
                }, 2, lane, due);
            }
        }
        int[] all = new int[24];
        for (int i = 0; i < 24; i++) {
            all[i] = 2 * i + 1;
        }
        dueItems("24 items", x -> fill(x, 0, 0, all), 0, 0, all);
    }

    private static void lowestBits() {
        long[] lows = {1L << 8, 1L << 16, 1L << 32};
        for (int lane = 0; lane < 3; lane++) {
            for (long more : new long[] {lows[lane], -lows[lane], 5 * lows[lane], Long.MIN_VALUE}) {
                due("lane " + lane + " with " + more, becomes(lane, 24 + more), 31);
            }
            due("lane " + lane + ": half of it is told", becomes(lane, 24 + lows[lane] / 2), 0);
            due("lane " + lane + ": the least long is 0", becomesZero(lane, Long.MIN_VALUE), 31);
            due("lane " + lane + ": the most long is -1", becomes(lane, Long.MAX_VALUE), 0);
        }
        for (long more : new long[] {1L << 8, 1L << 16, 1L << 31, 1L << 32, 1L << 62, Long.MIN_VALUE, -(1L << 8)}) {
            due("a long has all bits: " + more, becomes(3, 24 + more), 0);
        }
        due("an int has more than a short", becomes(2, 24 + (1L << 16)), 0);
        due("a short has more than a byte", becomes(1, 24 + (1L << 8)), 0);
        due("a long", becomes(3, 24), 31);
    }

    private static int becomes(int lane, long v) {
        MovedBlocks x = new MovedBlocks();
        x.sheet(0, lane, 1);
        due("item", x.item(0, lane, 0, v), 1);
        return x.found(0, lane, 0, 1);
    }

    private static int becomesZero(int lane, long v) {
        MovedBlocks x = new MovedBlocks();
        Whole.findBy(x, 0);
        x.sheet(0, lane, 1);
        x.item(0, lane, 0, 24);
        due("item", x.item(0, lane, 0, v), 1);
        return x.found(0, lane, 0, 1);
    }

    private static void itemBad() {
        for (int sheet : new int[] {-1, 4, LEAST, MOST}) {
            Whole.refused("sheet " + sheet, x -> x.item(sheet, 0, 0, 24), BAD);
        }
        for (int lane : new int[] {-1, 4, LEAST, MOST}) {
            Whole.refused("lane " + lane, x -> x.item(0, lane, 0, 24), BAD);
        }
        Whole.refused("ahead of NULL", x -> x.item(2, 4, 0, 24), BAD);
        Whole.refused("ahead of INDEX", x -> x.item(0, -1, -1, 24), BAD);
        due("no v is bad", becomes(0, Long.MAX_VALUE), 0);
    }

    private static void itemNull() {
        for (int lane = 0; lane < 4; lane++) {
            int asked = lane;
            Whole.refused("nothing as lane " + lane, x -> x.item(2, asked, 0, 24), NULL);
        }
        Whole.refused("ahead of INDEX", x -> x.item(2, 0, -1, 24), NULL);
    }

    private static void itemCast() {
        for (int lane = 1; lane < 4; lane++) {
            int asked = lane;
            Whole.changesNothing("bytes as lane " + lane, Whole.FULL, x -> x.item(0, asked, 0, 48), CAST);
        }
        Whole.changesNothing("no ints as longs", Whole.FULL, x -> x.item(3, 3, 0, 48), CAST);
        Whole.changesNothing("ahead of INDEX", Whole.FULL, x -> x.item(1, 0, 8, 48), CAST);
    }

    private static void itemIndex() {
        for (int i : new int[] {-1, 3, 23, 24, LEAST, MOST}) {
            Whole.changesNothing("item " + i, Whole.FULL, x -> x.item(0, 0, i, 48), INDEX);
        }
        for (int i : new int[] {-1, 0, 1, 23, 24}) {
            Whole.changesNothing("item " + i + " of none", Whole.FULL, x -> x.item(3, 2, i, 48), INDEX);
        }
        due("the first", Whole.after(Whole.FULL).item(0, 0, 0, 48), 1);
        due("the last", Whole.after(Whole.FULL).item(0, 0, 2, 48), 1);
        MovedBlocks x = new MovedBlocks();
        x.sheet(0, 0, 24);
        due("the last of 24", x.item(0, 0, 23, 1), 1);
        due("beyond 24", x.item(0, 0, 24, 1), INDEX);
    }

    // ---- promise 24

    private static void copied() {
        for (int lane = 0; lane < 4; lane++) {
            int asked = lane;
            dueItems("two of four", x -> {
                fill(x, 0, asked, 1, 2, 3, 4);
                fill(x, 3, asked, 11, 12, 13, 14, 15);
                due("copy", x.copy(0, 1, 3, 2, 2), 2);
            }, 3, lane, 11, 12, 2, 3, 15);
        }
        Whole.Run both = x -> {
            fill(x, 0, 1, 1, 2, 3, 4);
            fill(x, 1, 1, 11, 12, 13, 14);
        };
        copyDue("all", both, 0, 0, 4, 1, 2, 3, 4);
        copyDue("the last to the first", both, 3, 0, 1, 4, 12, 13, 14);
        copyDue("the first to the last", both, 0, 3, 1, 11, 12, 13, 1);
        copyDue("none", both, 0, 0, 0, 11, 12, 13, 14);
        copyDue("none from the end", both, 4, 4, 0, 11, 12, 13, 14);
        dueItems("the one it is from stays", x -> {
            both.on(x);
            x.copy(0, 0, 1, 0, 4);
            x.item(1, 1, 0, 48);
        }, 0, 1, 1, 2, 3, 4);
        MovedBlocks x = new MovedBlocks();
        x.sheet(0, 3, 1);
        x.sheet(1, 3, 1);
        x.item(0, 3, 0, 24 + (1L << 32));
        due("copy", x.copy(0, 0, 1, 0, 1), 1);
        due("all bits of a long", x.found(1, 3, 0, 1), 0);
        MovedBlocks y = new MovedBlocks();
        y.sheet(0, 3, 24);
        y.sheet(1, 3, 24);
        due("24", y.copy(0, 0, 1, 0, 24), 24);
        due("of none", copyOfNone(), 0);
    }

    private static int copyOfNone() {
        MovedBlocks x = new MovedBlocks();
        x.sheet(0, 3, 0);
        x.sheet(1, 3, 0);
        return x.copy(0, 0, 1, 0, 0);
    }

    private static void copyDue(String what, Whole.Run run, int i, int j, int n, int... due) {
        dueItems(what, x -> {
            run.on(x);
            due("copy", x.copy(0, i, 1, j, n), n);
        }, 1, 1, due);
    }

    private static void copiedOverItself() {
        int[][] due = {{1, 1, 2, 3}, {2, 3, 4, 4}, {1, 2, 1, 2}, {3, 4, 3, 4}, {1, 2, 3, 4}};
        int[][] how = {{0, 1, 3}, {1, 0, 3}, {0, 2, 2}, {2, 0, 2}, {0, 0, 4}};
        for (int lane = 0; lane < 4; lane++) {
            int asked = lane;
            for (int k = 0; k < how.length; k++) {
                int[] by = how[k];
                dueItems(by[2] + " from " + by[0] + " to " + by[1], x -> {
                    fill(x, 2, asked, 1, 2, 3, 4);
                    due("copy", x.copy(2, by[0], 2, by[1], by[2]), by[2]);
                }, 2, lane, due[k]);
            }
        }
    }

    private static void copyBad() {
        for (int sheet : new int[] {-1, 4, LEAST, MOST}) {
            Whole.refused("from " + sheet, x -> x.copy(sheet, 0, 0, 0, 1), BAD);
            Whole.refused("to " + sheet, x -> x.copy(0, 0, sheet, 0, 1), BAD);
            Whole.refused("ahead of NULL", x -> x.copy(2, 0, sheet, 0, 1), BAD);
            Whole.refused("ahead of NULL", x -> x.copy(sheet, 0, 2, 0, 1), BAD);
        }
        Whole.refused("ahead of INDEX", x -> x.copy(0, -1, 4, -1, -1), BAD);
    }

    private static void copyNull() {
        Whole.changesNothing("from nothing", Whole.FULL, x -> x.copy(2, 0, 0, 0, 1), NULL);
        Whole.changesNothing("to nothing", Whole.FULL, x -> x.copy(0, 0, 2, 0, 1), NULL);
        Whole.refused("nothing to nothing", x -> x.copy(2, 0, 2, 0, 1), NULL);
        Whole.refused("none from nothing", x -> x.copy(2, 0, 2, 0, 0), NULL);
        Whole.changesNothing("from nothing, ahead of INDEX", Whole.FULL, x -> x.copy(2, -1, 0, -1, -1), NULL);
        Whole.changesNothing("to nothing, ahead of INDEX", Whole.FULL, x -> x.copy(0, -1, 2, -1, -1), NULL);
    }

    private static void copyCast() {
        for (int lane = 0; lane < 4; lane++) {
            for (int other = 0; other < 4; other++) {
                MovedBlocks x = new MovedBlocks();
                x.sheet(0, lane, 2);
                x.sheet(1, other, 2);
                due("lanes " + lane + " " + other, x.copy(0, 0, 1, 0, 2), lane == other ? 2 : CAST);
            }
        }
        Whole.changesNothing("bytes to longs", Whole.FULL, x -> x.copy(0, 0, 1, 0, 1), CAST);
        Whole.changesNothing("longs to bytes", Whole.FULL, x -> x.copy(1, 0, 0, 0, 1), CAST);
        Whole.changesNothing("none of them", Whole.FULL, x -> x.copy(0, 0, 1, 0, 0), CAST);
        Whole.changesNothing("ahead of INDEX", Whole.FULL, x -> x.copy(0, -1, 1, -1, -1), CAST);
    }

    private static void copyIndex() {
        Whole.Run two = x -> {
            Whole.full(x);
            fill(x, 2, 0, 24, 25, 0, 48, 17);
        };
        int[][] how = {{-1, 0, 1}, {0, -1, 1}, {0, 0, 4}, {1, 0, 3}, {3, 0, 1}, {4, 0, 0}, {0, 6, 0}, {0, 5, 1}, {0, 3, 3},
            {0, 0, -1}, {-1, 0, 0}, {0, -1, 0}, {LEAST, 0, 1}, {0, LEAST, 1}, {MOST, 0, 1}, {0, MOST, 1}, {0, 0, MOST},
            {0, 0, LEAST}, {MOST, MOST, MOST}, {1, 1, MOST}, {LEAST, LEAST, LEAST}};
        for (int[] by : how) {
            Whole.changesNothing(by[2] + " from " + by[0] + " to " + by[1], two,
                x -> x.copy(0, by[0], 2, by[1], by[2]), INDEX);
        }
        due("up to both ends", Whole.after(two).copy(0, 0, 2, 2, 3), 3);
        due("none at both ends", Whole.after(two).copy(0, 3, 2, 5, 0), 0);
        due("too many for the one it comes to", Whole.after(two).copy(2, 0, 0, 0, 4), INDEX);
        due("as many as it has room for", Whole.after(two).copy(2, 0, 0, 0, 3), 3);
    }
}
