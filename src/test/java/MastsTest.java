/** Promises 3, 4, 5, 7, 8, 9, 26 and 27: masts, areas, aerials and strength. */
public final class MastsTest {
    private static final Check CHECK = new Check("MastsTest");
    private static final int NONE = MastMove.NONE;

    public static void main(String[] args) {
        masts();
        mastsAndPlan();
        abroad();
        areas();
        aims();
        turns();
        strengths();
        CHECK.finish();
    }

    private static void masts() {
        MastMove move = new MastMove();
        int[][] wrong = {
            {-1, 0, 1, NONE, 0}, {101, 0, 1, NONE, 0}, {0, -1, 1, NONE, 0}, {0, 101, 1, NONE, 0},
            {0, 0, 0, NONE, 0}, {0, 0, 10001, NONE, 0}, {0, 0, 1, 0, 0}, {0, 0, 1, -2, 0},
            {0, 0, 1, NONE, -1}, {0, 0, 1, NONE, 12}};
        for (int[] w : wrong) {
            CHECK.due("mast refused", move.mast(w[0], w[1], w[2], w[3], false, w[4]), -2);
        }
        CHECK.due("count(1)", move.count(1), 0);
        CHECK.due("mast at one edge", move.mast(0, 100, 1, NONE, true, 11), 0);
        CHECK.due("mast at the other", move.mast(100, 0, 10000, 0, false, 0), 1);
        int[] first = {0, 100, 1, NONE, 1, 11, 0, 0};
        int[] second = {100, 0, 10000, 0, 0, 0, 0, 0};
        for (int what = 0; what < 8; what++) {
            CHECK.due("mastOf(0, " + what + ")", move.mastOf(0, what), first[what]);
            CHECK.due("mastOf(1, " + what + ")", move.mastOf(1, what), second[what]);
        }
        CHECK.due("mastOf(0, 8)", move.mastOf(0, 8), -2);
        CHECK.due("mastOf(0, -1)", move.mastOf(0, -1), -2);
        CHECK.due("mastOf(2, 0)", move.mastOf(2, 0), -2);
        CHECK.due("mastOf(-1, 0)", move.mastOf(-1, 0), -2);
        CHECK.due("fed by itself", move.mast(0, 0, 1, 2, false, 0), -2);
        for (int m = 2; m < 10; m++) {
            CHECK.due("mast " + m, move.mast(0, 0, 1, m - 1, false, 0), m);
        }
        CHECK.due("an 11th", move.mast(0, 0, 1, NONE, false, 0), -3);
        CHECK.due("an 11th that is wrong", move.mast(0, 0, 1, 10, false, 0), -2);
        CHECK.due("count(1)", move.count(1), 10);
    }

    private static void mastsAndPlan() {
        MastMove move = new MastMove();
        move.mast(0, 0, 1, NONE, true, 0);
        move.plan(1, 0L);
        CHECK.due("mast with a plan", move.mast(0, 0, 1, NONE, false, 0), -9);
        CHECK.due("wrong mast with a plan", move.mast(0, 0, 0, NONE, false, 0), -2);
        CHECK.due("plan that can't be", move.plan(1, -1L), NONE);
        CHECK.due("mast without a plan again", move.mast(0, 0, 1, NONE, false, 0), 1);
    }

    private static void abroad() {
        MastMove move = new MastMove();
        int[][] wrong = {
            {-1, 0, 1, 0, 0}, {101, 0, 1, 0, 0}, {0, -1, 1, 0, 0}, {0, 101, 1, 0, 0},
            {0, 0, 0, 0, 0}, {0, 0, 10001, 0, 0}, {0, 0, 1, -1, 0}, {0, 0, 1, 12, 0},
            {0, 0, 1, 0, -1}, {0, 0, 1, 0, 53}};
        for (int[] w : wrong) {
            CHECK.due("abroad refused", move.abroad(w[0], w[1], w[2], w[3], w[4]), -2);
        }
        CHECK.due("count(2)", move.count(2), 0);
        CHECK.due("abroad 0", move.abroad(0, 0, 1, 0, 0), 0);
        CHECK.due("abroad 1", move.abroad(100, 100, 10000, 11, 52), 1);
        CHECK.due("abroad 2", move.abroad(1, 2, 3, 4, 5), 2);
        CHECK.due("abroad 3", move.abroad(1, 2, 3, 4, 5), 3);
        CHECK.due("a 5th", move.abroad(1, 2, 3, 4, 5), -3);
        CHECK.due("a wrong 5th", move.abroad(1, 2, 3, 4, 53), -2);
        CHECK.due("count(2)", move.count(2), 4);
        CHECK.due("count(1)", move.count(1), 0);
        CHECK.due("mastOf one abroad", move.mastOf(10, 0), -2);
    }

    private static void areas() {
        MastMove move = new MastMove();
        int[][] wrong = {
            {-1, 0, 9, 0, 0}, {101, 0, 9, 0, 0}, {0, -1, 9, 0, 0}, {0, 101, 9, 0, 0},
            {0, 0, -1, 0, 0}, {0, 0, 100001, 0, 0}, {0, 0, 9, 10, 0}, {0, 0, 9, -1, 0},
            {0, 0, 9, 0, 10}, {0, 0, 9, 0, -1}};
        for (int[] w : wrong) {
            CHECK.due("area refused", move.area(w[0], w[1], w[2], w[3], w[4]), -2);
        }
        CHECK.due("count(3)", move.count(3), 0);
        CHECK.due("area 0", move.area(100, 0, 100000, 100000, 99999), 0);
        int[] facts = {100000, 100000, 99999, 0, NONE, 0};
        for (int what = 0; what < 6; what++) {
            CHECK.due("areaOf(0, " + what + ")", move.areaOf(0, what), facts[what]);
        }
        CHECK.due("areaOf(0, 6)", move.areaOf(0, 6), -2);
        CHECK.due("areaOf(0, -1)", move.areaOf(0, -1), -2);
        CHECK.due("areaOf(1, 0)", move.areaOf(1, 0), -2);
        CHECK.due("areaOf(-1, 0)", move.areaOf(-1, 0), -2);
        for (int a = 1; a < 16; a++) {
            CHECK.due("area " + a, move.area(0, 100, 0, 0, 0), a);
        }
        CHECK.due("a 17th", move.area(0, 0, 0, 0, 0), -3);
        CHECK.due("a wrong 17th", move.area(0, 0, 0, 1, 0), -2);
        CHECK.due("count(3)", move.count(3), 16);
    }

    private static void aims() {
        MastMove move = new MastMove();
        move.mast(0, 0, 1, NONE, false, 0);
        move.mast(9, 9, 1, NONE, false, 0);
        move.area(0, 0, 9, 0, 0);
        CHECK.due("aim from none", move.aim(0, 1), NONE);
        CHECK.due("aim from 1", move.aim(0, 0), 1);
        CHECK.due("areaOf(0, 4)", move.areaOf(0, 4), 0);
        CHECK.due("turned twice", move.areaOf(0, 5), 2);
        CHECK.due("aim to where they look", move.aim(0, 0), 0);
        CHECK.due("that is no turn", move.areaOf(0, 5), 2);
        CHECK.due("aim to none", move.aim(0, NONE), 0);
        CHECK.due("areaOf(0, 4)", move.areaOf(0, 4), NONE);
        CHECK.due("turned a third time", move.areaOf(0, 5), 3);
        CHECK.due("no such mast", move.aim(0, 2), -2);
        CHECK.due("no such mast", move.aim(0, -2), -2);
        CHECK.due("no such area", move.aim(1, 0), -2);
        CHECK.due("no such area", move.aim(-1, NONE), -2);
        move.abroad(0, 0, 1, 0, 52);
        CHECK.due("one abroad", move.aim(0, 10), -2);
        CHECK.due("areaOf(0, 5)", move.areaOf(0, 5), 3);
    }

    private static void turns() {
        MastMove move = new MastMove();
        move.area(0, 0, 9, 0, 0);
        move.area(50, 0, 9, 0, 0);
        move.area(25, 0, 9, 0, 0);
        CHECK.due("turn without masts", move.turn(), 0);
        CHECK.due("areaOf(0, 5)", move.areaOf(0, 5), 0);
        move.mast(0, 0, 9, NONE, false, 0);
        move.mast(50, 0, 9, NONE, false, 0);
        move.fail(0, true);
        move.abroad(0, 0, 10000, 0, 52);
        CHECK.due("turn of all", move.turn(), 3);
        CHECK.due("nearest", move.areaOf(0, 4), 0);
        CHECK.due("nearest", move.areaOf(1, 4), 1);
        CHECK.due("the least of two", move.areaOf(2, 4), 0);
        move.aim(0, 1);
        CHECK.due("turn of one", move.turn(), 1);
        CHECK.due("areaOf(0, 5)", move.areaOf(0, 5), 3);
        CHECK.due("areaOf(1, 5)", move.areaOf(1, 5), 1);
        CHECK.due("turn of none", move.turn(), 0);
        // A strength that is cut to 0 is the greatest still.
        MastMove far = new MastMove();
        far.mast(0, 0, 1, NONE, false, 0);
        far.area(100, 100, 1, 0, 0);
        CHECK.due("turn to a mast of strength 0", far.turn(), 1);
        CHECK.due("strength 0", far.strength(0, 0), 0);
        CHECK.due("areaOf(0, 4)", far.areaOf(0, 4), 0);
    }

    private static void strengths() {
        MastMove move = new MastMove();
        move.mast(3, 4, 10000, NONE, false, 0);
        move.abroad(100, 0, 7, 0, 0);
        move.area(3, 4, 9, 0, 0);
        move.area(0, 0, 9, 0, 0);
        move.area(100, 100, 9, 0, 0);
        CHECK.due("at its place", move.strength(0, 0), 1000000);
        CHECK.due("5 away", move.strength(0, 1), 10000000 / 35);
        CHECK.due("far away", move.strength(0, 2), 10000000 / (10 + 97 * 97 + 96 * 96));
        CHECK.due("one abroad that is off", move.strength(10, 2), 7000 / 10010);
        CHECK.due("one abroad", move.strength(10, 0), 7000 / (10 + 97 * 97 + 16));
        CHECK.due("no such mast", move.strength(1, 0), -2);
        CHECK.due("no such mast", move.strength(-1, 0), -2);
        CHECK.due("none such abroad", move.strength(11, 0), -2);
        CHECK.due("none such abroad", move.strength(14, 0), -2);
        CHECK.due("no such mast", move.strength(Integer.MIN_VALUE, 0), -2);
        CHECK.due("no such mast", move.strength(Integer.MAX_VALUE, 0), -2);
        CHECK.due("no such area", move.strength(0, 3), -2);
        CHECK.due("no such area", move.strength(0, -1), -2);
    }
}
