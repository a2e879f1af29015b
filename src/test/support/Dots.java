import java.util.ArrayList;
import java.util.Arrays;
import java.util.Comparator;
import java.util.List;
import java.util.Random;

/** Pictures as rows of 96 numbers, made and told apart from the class. */
final class Dots {
    /** All moves in their order, sorted by the document's words. */
    static final int[] ORDER = order();

    private Dots() {
    }

    private static int[] order() {
        List<Integer> moves = new ArrayList<>();
        for (int move = 0; move < 49; move++) {
            moves.add(move);
        }
        moves.sort(Comparator.comparingInt(Dots::steps).thenComparingInt(move -> move));
        return moves.stream().mapToInt(move -> move).toArray();
    }

    static int x(int move) {
        return move % 7 - 3;
    }

    static int y(int move) {
        return move / 7 - 3;
    }

    static int move(int x, int y) {
        return 7 * (y + 3) + x + 3;
    }

    static int steps(int move) {
        return Math.abs(x(move)) + Math.abs(y(move));
    }

    static int column(int block, int place) {
        return block % 3 * 4 + place % 4;
    }

    static int row(int block, int place) {
        return block / 3 * 4 + place / 4;
    }

    /** The dot there, or the nearest one. */
    static int index(int column, int row) {
        int c = column < 0 ? 0 : column > 11 ? 11 : column;
        int r = row < 0 ? 0 : row > 7 ? 7 : row;
        return 12 * r + c;
    }

    /** No dot is as the one on its left or above it, so that moves beyond the edge are unlike, too. */
    static int[] drawn(int seed) {
        Random random = new Random(seed);
        int[] dots = new int[96];
        for (int i = 0; i < 96; i++) {
            do {
                dots[i] = random.nextInt(10);
            } while (i % 12 > 0 && dots[i] == dots[i - 1] || i >= 12 && dots[i] == dots[i - 12]);
        }
        return dots;
    }

    static int[] all(int figure) {
        int[] dots = new int[96];
        Arrays.fill(dots, figure);
        return dots;
    }

    /** What NOW is if each block is in OLD by its move. */
    static int[] moved(int[] old, int... moves) {
        int[] now = new int[96];
        for (int block = 0; block < 6; block++) {
            int move = moves[block];
            for (int i = 0; i < 16; i++) {
                int c = column(block, i), r = row(block, i);
                now[index(c, r)] = old[index(c + x(move), r + y(move))];
            }
        }
        return now;
    }

    /** The picture of half the size, 6 in a row. */
    static int[] halved(int[] dots) {
        int[] half = new int[24];
        for (int i = 0; i < 24; i++) {
            int c = i % 6 * 2, r = i / 6 * 2;
            half[i] = (dots[12 * r + c] + dots[12 * r + c + 1] + dots[12 * r + 12 + c] + dots[12 * r + 13 + c]) / 4;
        }
        return half;
    }

    /** Of the moves by one the one that costs least by PLAIN in pictures of half the size, the first in order. */
    static int halfMove(int[] old, int[] now, int block) {
        int[] oldHalf = halved(old), nowHalf = halved(now);
        int best = -1, least = 0;
        for (int move : ORDER) {
            if (Math.abs(x(move)) > 1 || Math.abs(y(move)) > 1) {
                continue;
            }
            int cost = 0;
            for (int i = 0; i < 4; i++) {
                int c = block % 3 * 2 + i % 2, r = block / 3 * 2 + i / 2;
                int oldC = Math.max(0, Math.min(5, c + x(move))), oldR = Math.max(0, Math.min(3, r + y(move)));
                cost += Math.abs(nowHalf[6 * r + c] - oldHalf[6 * oldR + oldC]);
            }
            if (best < 0 || cost < least) {
                best = move;
                least = cost;
            }
        }
        return best;
    }

    static int tell(MovedBlocks x, char target, int[] dots) {
        StringBuilder text = new StringBuilder().append(target);
        for (int dot : dots) {
            text.append(dot);
        }
        return Whole.tell(x, text.toString());
    }

    /** Takes 196 calls of the object's 512. */
    static MovedBlocks scene(int[] old, int[] now) {
        MovedBlocks x = new MovedBlocks();
        Sentences.due("dots of OLD", tell(x, 'o', old), 96);
        Sentences.due("dots of NOW", tell(x, 'n', now), 96);
        return x;
    }

    /** An object with texts told, one after another. */
    static MovedBlocks told(String... texts) {
        MovedBlocks x = new MovedBlocks();
        for (String text : texts) {
            Sentences.due("no fault in " + text, Math.min(0, Whole.tell(x, text)), 0);
        }
        return x;
    }

    /** By what the moves cost: of those in the window the one that costs least, of like ones the first in order. */
    static int bestIn(MovedBlocks x, int block, int middle, int reach) {
        int best = -1, least = 0;
        for (int move : ORDER) {
            boolean in = Math.abs(x(move) - x(middle)) <= reach && Math.abs(y(move) - y(middle)) <= reach;
            int cost = in ? x.cost(block, move) : 0;
            if (in && (best < 0 || cost < least)) {
                best = move;
                least = cost;
            }
        }
        return best;
    }
}
