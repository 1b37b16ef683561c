/** Promises 6, 29, 30, 31 and 32: slots, their rows, and the poor that come from them. */
public final class RowsTest {
    private static final Check CHECK = new Check("RowsTest");

    public static void main(String[] args) {
        rows();
        writes();
        cuts();
        pastes();
        pastesRefused();
        poor();
        CHECK.finish();
    }

    private static void rows() {
        MastMove move = new MastMove();
        CHECK.due("slot -1", move.row(-1, 0, 1), -2);
        CHECK.due("slot 4", move.row(4, 0, 1), -2);
        CHECK.due("width -1", move.row(0, -1, 1), -2);
        CHECK.due("width 4", move.row(0, 4, 1), -2);
        CHECK.due("61 numbers", move.row(0, 0, 61), -2);
        CHECK.due("-1 numbers", move.row(0, 0, -1), -3);
        CHECK.due("-1 numbers of no width", move.row(0, 4, -1), -2);
        CHECK.due("fewest", move.row(0, 0, Integer.MIN_VALUE), -3);
        CHECK.due("count(8)", move.count(8), 0);
        CHECK.due("no numbers", move.row(0, 0, 0), 0);
        CHECK.due("60 numbers", move.row(3, 3, 60), 0);
        CHECK.due("count(8)", move.count(8), 2);
        CHECK.due("slot stays", move.row(3, 0, -1), -3);
        CHECK.due("number 59", move.write(3, 59, 1), 0);
        CHECK.due("in its place", move.row(3, 0, 2), 0);
        CHECK.due("number 2 is gone", move.write(3, 2, 1), -6);
        CHECK.due("tear", move.tear(0), true);
        CHECK.due("tear again", move.tear(0), false);
        CHECK.due("tear -1", move.tear(-1), false);
        CHECK.due("tear 4", move.tear(4), false);
        CHECK.due("count(8)", move.count(8), 1);
    }

    private static void writes() {
        MastMove move = new MastMove();
        CHECK.due("no such slot", move.write(-1, 0, 0), -2);
        CHECK.due("no such slot", move.write(4, 0, 0), -2);
        CHECK.due("nothing there", move.write(0, 0, 0), -5);
        move.row(0, 0, 3);
        CHECK.due("number -1", move.write(0, -1, 0), -6);
        CHECK.due("number 3", move.write(0, 3, 0), -6);
        CHECK.due("number 2", move.write(0, 2, 0), 0);
        move.row(0, 0, 0);
        CHECK.due("of none", move.write(0, 0, 0), -6);
    }

    /** What a row has can be seen by poor() alone. */
    private static void cuts() {
        long[][] cases = {
            {0, 127, 127}, {0, 128, -4}, {0, 255, -4}, {0, 256, 0}, {0, 261, 5}, {0, -1, -4}, {0, -256, 0},
            {1, 32767, 32767}, {1, 32768, -4}, {1, 65536 + 9, 9}, {1, -65536, 0},
            {2, 70000, 70000}, {2, (1L << 32) + 3, 3}, {2, 1L << 31, -4}, {2, 100001, -4},
            {3, 100000, 100000}, {3, (1L << 32) + 3, -4}, {3, -1, -4}, {3, Long.MIN_VALUE, -4}};
        for (long[] c : cases) {
            MastMove move = new MastMove();
            move.area(0, 0, 100000, 1, 0);
            move.row(1, (int) c[0], 1);
            CHECK.due("write", move.write(1, 0, c[1]), 0);
            int answer = move.poor(1);
            CHECK.due("poor of " + c[1] + " in width " + c[0], answer, c[2] == -4 ? -4 : 0);
            CHECK.due("areaOf(0, 1)", move.areaOf(0, 1), c[2] == -4 ? 1 : c[2]);
        }
    }

    private static MastMove withAreas() {
        MastMove move = new MastMove();
        for (int a = 0; a < 5; a++) {
            move.area(0, 0, 99, 0, 0);
        }
        move.row(0, 1, 5);
        for (int i = 0; i < 5; i++) {
            move.write(0, i, i + 1);
        }
        return move;
    }

    private static void rowIs(MastMove move, int slot, int... due) {
        CHECK.due("poor(" + slot + ")", move.poor(slot), 0);
        for (int i = 0; i < due.length; i++) {
            CHECK.due("number " + i + " of slot " + slot, move.areaOf(i, 1), due[i]);
        }
    }

    private static void pastes() {
        MastMove move = withAreas();
        rowIs(move, 0, 1, 2, 3, 4, 5);
        CHECK.due("own row, to the right", move.paste(0, 0, 0, 1, 4), 0);
        rowIs(move, 0, 1, 1, 2, 3, 4);
        CHECK.due("own row, to the left", move.paste(0, 2, 0, 0, 3), 0);
        rowIs(move, 0, 2, 3, 4, 3, 4);
        move.row(2, 1, 6);
        CHECK.due("another row", move.paste(0, 0, 2, 1, 3), 0);
        rowIs(move, 2, 0, 2, 3, 4, 0);
        CHECK.due("a row anew", move.row(2, 1, 6), 0);
        rowIs(move, 2, 0, 0, 0, 0, 0);
        move.paste(0, 0, 2, 1, 3);
        CHECK.due("no numbers", move.paste(0, 5, 2, 6, 0), 0);
        rowIs(move, 2, 0, 2, 3, 4, 0);
        rowIs(move, 0, 2, 3, 4, 3, 4);
    }

    private static void pastesRefused() {
        MastMove move = withAreas();
        move.row(1, 1, 5);
        move.row(3, 2, 5);
        CHECK.due("no such slot", move.paste(-1, 0, 0, 0, 1), -2);
        CHECK.due("no such slot", move.paste(4, 0, 0, 0, 1), -2);
        CHECK.due("no such slot", move.paste(0, 0, -1, 0, 1), -2);
        CHECK.due("no such slot", move.paste(2, 0, 4, 0, 1), -2);
        CHECK.due("to nothing", move.paste(0, -1, 2, 0, 1), -5);
        CHECK.due("from nothing", move.paste(2, 0, 0, 0, 1), -5);
        CHECK.due("unlike widths", move.paste(0, 9, 3, 0, 1), -7);
        int[][] beyond = {
            {-1, 0, 1}, {0, -1, 1}, {0, 0, -1}, {5, 0, 1}, {0, 5, 1}, {3, 0, 3}, {0, 3, 3}, {0, 0, 6},
            {Integer.MAX_VALUE, 0, 1}, {1, 1, Integer.MAX_VALUE}, {0, Integer.MAX_VALUE, Integer.MAX_VALUE},
            {Integer.MIN_VALUE, 0, 1}, {0, 0, Integer.MIN_VALUE}, {-1, 0, 0}, {0, -1, 0}};
        for (int[] b : beyond) {
            CHECK.due("beyond " + b[0] + " " + b[1] + " " + b[2], move.paste(0, b[0], 1, b[1], b[2]), -6);
        }
        rowIs(move, 1, 0, 0, 0, 0, 0);
    }

    private static void poor() {
        MastMove move = new MastMove();
        CHECK.due("no such slot", move.poor(-1), -2);
        CHECK.due("no such slot", move.poor(4), -2);
        CHECK.due("nothing there", move.poor(3), -5);
        move.row(3, 3, 0);
        CHECK.due("no numbers for no areas", move.poor(3), 0);
        move.area(0, 0, 10, 1, 0);
        CHECK.due("fewer numbers than areas", move.poor(3), -6);
        move.area(0, 0, 20, 2, 0);
        move.row(3, 3, 3);
        move.write(3, 0, 10);
        move.write(3, 1, 21);
        move.write(3, 2, -7);
        CHECK.due("above homes", move.poor(3), -4);
        CHECK.due("nothing happened", move.areaOf(0, 1), 1);
        CHECK.due("nothing happened", move.areaOf(1, 1), 2);
        move.write(3, 1, 20);
        CHECK.due("the third is of no area", move.poor(3), 0);
        CHECK.due("poor of 0", move.areaOf(0, 1), 10);
        CHECK.due("poor of 1", move.areaOf(1, 1), 20);
        move.write(3, 0, -1);
        CHECK.due("below 0", move.poor(3), -4);
        move.row(3, 0, 1);
        move.write(3, 0, 99);
        CHECK.due("fewer, and one that is wrong", move.poor(3), -6);
    }
}
