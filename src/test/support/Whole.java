import java.util.HashMap;
import java.util.Map;

/** All that calls tell of an object after a run of calls, seen through as many objects of that run as it takes. */
final class Whole {
    interface Run {
        void on(MovedBlocks x);
    }

    interface Call {
        int on(MovedBlocks x);
    }

    /** What items of sheets are looked for as: `full` puts no others, but for those that are no moves. */
    private static final int[] MOVES = {24, 25, 0, 48, 17, 10};
    private static final Map<Run, String> SEEN = new HashMap<>();

    /** Nothing was done yet. */
    static final Run NEW = x -> { };

    /** Nothing is as at first: pictures, kind, draw, what may be undone (8), image, tape, sheets. */
    static final Run FULL = Whole::full;

    /** As FULL, and the tape holds as many letters as it can. */
    static final Run TAPE_FULL = x -> {
        full(x);
        for (int i = 0; i < 117; i++) {
            x.type('5');
        }
    };

    private Whole() {
    }

    static void full(MovedBlocks x) {
        tell(x, "b r1 23");
        x.like(1);
        x.paint(3, 3, 4);
        x.seed(5);
        x.image();
        tell(x, "o 123456789 r9 8765 r2 00 r5");
        tell(x, "n 2345678 r9 7654 r2 0 r5 r6");
        for (int i = 0; i < 4; i++) {
            x.paint(i, 5, 7);
        }
        x.shift(1, -1);
        x.like(3);
        x.take();
        x.noise(2);
        x.paint(9, 1, 0);
        x.seed(777);
        x.sheet(0, 0, 3);
        x.item(0, 0, 0, 24);
        x.item(0, 0, 1, 25);
        x.item(0, 0, 2, -1);
        x.sheet(1, 3, 8);
        x.item(1, 3, 0, 48);
        x.item(1, 3, 3, 17);
        x.item(1, 3, 4, 24 + (1L << 32));
        x.item(1, 3, 7, 10);
        x.sheet(3, 2, 0);
        type(x, "n7r");
    }

    static void type(MovedBlocks x, String text) {
        for (int i = 0; i < text.length(); i++) {
            x.type(text.charAt(i));
        }
    }

    static int tell(MovedBlocks x, String text) {
        type(x, text);
        return x.picture();
    }

    static MovedBlocks after(Run run) {
        MovedBlocks x = new MovedBlocks();
        run.on(x);
        return x;
    }

    /** The call answers so after the run, and all is as it would be without it. */
    static void changesNothing(String what, Run run, Call call, int answer) {
        Sentences.due(what, call.on(after(run)), answer);
        changesNothing(what, run, call);
    }

    static void changesNothing(String what, Run run, Call call) {
        Sentences.due("all else after " + what, of(x -> {
            run.on(x);
            call.on(x);
        }), SEEN.computeIfAbsent(run, Whole::of));
    }

    /** Refused so by an object that was not used yet, and by one where nothing is as at first. */
    static void refused(String what, Call call, int answer) {
        changesNothing(what, NEW, call, answer);
        changesNothing(what, FULL, call, answer);
    }

    static String of(Run run) {
        StringBuilder seen = new StringBuilder();
        for (int undone = 0; undone <= 8; undone++) {
            seen.append(" undone ").append(undone);
            scene(after(run), undone, seen);
        }
        MovedBlocks other = after(run);
        seen.append(" restored ").append(other.restore());
        scene(other, 0, seen);
        for (int undone = 1; undone <= 8; undone++) {
            MovedBlocks restored = after(run);
            restored.restore();
            scene(restored, undone, seen);
        }
        seen.append(" tape ").append(after(run).type(' '));
        MovedBlocks taped = after(run);
        seen.append(' ').append(taped.picture());
        scene(taped, 0, seen);
        for (int move : MOVES) {
            seen.append(" sheets by ").append(move);
            sheets(after(run), move, seen);
        }
        return seen.toString();
    }

    private static void scene(MovedBlocks x, int undone, StringBuilder seen) {
        for (int i = 0; i < undone; i++) {
            seen.append(' ').append(x.undo());
        }
        seen.append(" dots ").append(dots(x, 0)).append(' ').append(dots(x, 1));
        seen.append(" kind ").append(x.count(0)).append(" known ").append(x.count(7));
        seen.append(" draw ").append(x.seed(1));
    }

    /** All dots of a picture as figures. */
    static String dots(MovedBlocks x, int what) {
        StringBuilder dots = new StringBuilder();
        for (int i = 0; i < 96; i++) {
            dots.append(x.dot(i % 12, i / 12, what));
        }
        return dots.toString();
    }

    /** NOW is drawn, and OLD as well, so that by all kinds the best of block 0 is that move. */
    static void findBy(MovedBlocks x, int move) {
        x.picture();
        tell(x, "b");
        x.seed(4);
        x.noise(40);
        x.noise(40);
        x.noise(40);
        x.noise(40);
        x.take();
        x.shift(move % 7 - 3, move / 7 - 3);
    }

    private static void sheets(MovedBlocks x, int move, StringBuilder seen) {
        findBy(x, move);
        for (int sheet = 0; sheet < 4; sheet++) {
            for (int lane = 0; lane < 4; lane++) {
                int first = x.found(sheet, lane, 0, 1);
                seen.append(' ').append(first);
                for (int i = 1; i < 24 && first >= 0; i++) {
                    seen.append(' ').append(x.found(sheet, lane, i, 1));
                }
            }
        }
    }
}
