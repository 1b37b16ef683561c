import java.util.Random;

/** Promises 10 and 11: plans, beside the first of all plans that can be tried. */
public final class PlanTest {
    private static final Check CHECK = new Check("PlanTest");
    private static final int NONE = MastMove.NONE;

    public static void main(String[] args) {
        edges();
        lateWeeks();
        channelsAreGone();
        weekHasGone();
        besideAllPlans();
        CHECK.finish();
    }

    private static void weeksAre(MastMove move, int... due) {
        for (int m = 0; m < due.length; m++) {
            CHECK.due("weekOf(" + m + ")", move.weekOf(m), due[m]);
        }
    }

    private static void edges() {
        MastMove move = new MastMove();
        CHECK.due("no masts", move.plan(1, 0L), NONE);
        CHECK.due("no masts, no crews", move.plan(0, 0L), -2);
        CHECK.due("weekOf(0)", move.weekOf(0), -2);
        move.mast(0, 0, 1, NONE, true, 0);
        move.mast(0, 0, 1, 0, false, 0);
        move.mast(0, 0, 1, NONE, false, 0);
        weeksAre(move, NONE, NONE, NONE);
        CHECK.due("weekOf(3)", move.weekOf(3), -2);
        CHECK.due("weekOf(-1)", move.weekOf(-1), -2);
        CHECK.due("crews 0", move.plan(0, 0L), -2);
        CHECK.due("crews 4", move.plan(4, 0L), -2);
        CHECK.due("crews -1", move.plan(-1, 0L), -2);
        CHECK.due("count(9)", move.count(9), NONE);
        CHECK.due("the low one in the wind", move.plan(1, 1L), 3);
        weeksAre(move, 1, 2, 0);
        CHECK.due("all behind the wind", move.plan(3, 3L), 3);
        weeksAre(move, 2, 2, 2);
        CHECK.due("wind in between", move.plan(1, 2L), 3);
        weeksAre(move, 0, 1, 2);
        CHECK.due("two crews", move.plan(2, 0L), 2);
        weeksAre(move, 0, 1, 1);
        CHECK.due("crews 4 leave the plan", move.plan(4, 0L), -2);
        CHECK.due("count(9)", move.count(9), 2);
        CHECK.due("wind always", move.plan(3, (1L << 52) - 1), NONE);
        CHECK.due("count(9)", move.count(9), NONE);
        weeksAre(move, NONE, NONE, NONE);
    }

    private static void lateWeeks() {
        MastMove move = new MastMove();
        for (int m = 0; m < 4; m++) {
            move.mast(0, 0, 1, NONE, true, 0);
        }
        long all = (1L << 52) - 1;
        CHECK.due("one calm week for 4", move.plan(3, all & ~(1L << 51)), NONE);
        CHECK.due("two calm weeks for 4", move.plan(3, all & ~(1L << 51) & ~(1L << 5)), 52);
        weeksAre(move, 5, 51, 51, 51);
        CHECK.due("bits above 51 are of no matter", move.plan(1, -1L & ~15L), 4);
        weeksAre(move, 0, 1, 2, 3);
        CHECK.due("bits above 51 give no week", move.plan(3, all), NONE);
        MastMove one = new MastMove();
        one.mast(0, 0, 1, NONE, true, 0);
        CHECK.due("the last week for one", one.plan(1, all & ~(1L << 51)), 52);
        weeksAre(one, 51);
        one.plan(1, -1L);
        one.mast(0, 0, 1, NONE, true, 0);
        CHECK.due("the last week for two", one.plan(1, all & ~(1L << 51)), NONE);
        CHECK.due("the last week for two crews", one.plan(2, all & ~(1L << 51)), 52);
        weeksAre(one, 51, 51);
    }

    private static void channelsAreGone() {
        MastMove move = new MastMove();
        move.mast(0, 0, 1, NONE, true, 0);
        move.plan(1, 0L);
        move.channels();
        CHECK.due("wrong crews", move.plan(0, 0L), -2);
        CHECK.due("channels stay", move.channelOf(0), 0);
        CHECK.due("plan anew", move.plan(1, 0L), 1);
        CHECK.due("channels are gone", move.channelOf(0), NONE);
        CHECK.due("go()", move.go(), -9);
        move.channels();
        CHECK.due("plan that can't be", move.plan(1, -1L), NONE);
        CHECK.due("channels are gone", move.channelOf(0), NONE);
        CHECK.due("channels()", move.channels(), -9);
    }

    private static void weekHasGone() {
        MastMove move = new MastMove();
        move.mast(0, 0, 1, NONE, true, 0);
        move.plan(1, 2L);
        move.channels();
        move.go();
        CHECK.due("a week has gone", move.plan(1, 1L), -9);
        CHECK.due("wrong crews", move.plan(9, 1L), -2);
        CHECK.due("the plan stays", move.weekOf(0), 0);
        CHECK.due("the channels stay", move.channelOf(0), 0);
        CHECK.due("count(9)", move.count(9), 1);
    }

    private static void besideAllPlans() {
        Random random = new Random(7);
        for (int round = 0; round < 1500; round++) {
            int masts = 1 + random.nextInt(5);
            int crews = 1 + random.nextInt(3);
            int windy = random.nextInt(128);
            int[] feed = new int[masts];
            boolean[] high = new boolean[masts];
            MastMove move = new MastMove();
            for (int m = 0; m < masts; m++) {
                feed[m] = random.nextBoolean() ? NONE : random.nextInt(m + 1) - 1;
                high[m] = random.nextBoolean();
                move.mast(0, 0, 1, feed[m], high[m], 0);
            }
            // Behind week 7 there is wind alone, so that seven weeks are all that can be tried.
            long winds = windy | -1L << 7;
            int[] best = firstPlan(feed, high, crews, winds);
            if (best.length > 0) {
                CHECK.due("plan", move.plan(crews, winds), lastOf(best) + 1);
                weeksAre(move, best);
            }
        }
    }

    private static int lastOf(int[] plan) {
        int last = 0;
        for (int week : plan) {
            last = Math.max(last, week);
        }
        return last;
    }

    /** Tries every plan of 7 weeks. */
    private static int[] firstPlan(int[] feed, boolean[] high, int crews, long winds) {
        int[] best = {};
        int[] plan = new int[feed.length];
        int all = (int) Math.round(Math.pow(7, feed.length));
        for (int code = 0; code < all; code++) {
            int rest = code;
            for (int m = 0; m < plan.length; m++) {
                plan[m] = rest % 7;
                rest /= 7;
            }
            if (isPlan(plan, feed, high, crews, winds) && (best.length == 0 || isAhead(plan, best))) {
                best = plan.clone();
            }
        }
        return best;
    }

    private static boolean isPlan(int[] plan, int[] feed, boolean[] high, int crews, long winds) {
        for (int week = 0; week < 7; week++) {
            if (Integer.bitCount(setOf(plan, week)) > crews) {
                return false;
            }
        }
        for (int m = 0; m < plan.length; m++) {
            if (feed[m] != NONE && plan[feed[m]] > plan[m] || high[m] && (winds >> plan[m] & 1) == 1) {
                return false;
            }
        }
        return true;
    }

    private static int setOf(int[] plan, int week) {
        int set = 0;
        for (int m = 0; m < plan.length; m++) {
            set |= plan[m] == week ? 1 << m : 0;
        }
        return set;
    }

    private static boolean isAhead(int[] plan, int[] other) {
        if (lastOf(plan) != lastOf(other)) {
            return lastOf(plan) < lastOf(other);
        }
        for (int week = 0; week < 7; week++) {
            if (setOf(plan, week) != setOf(other, week)) {
                return setOf(plan, week) < setOf(other, week);
            }
        }
        return false;
    }
}
