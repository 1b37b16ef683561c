/**
 * The boundary cases of Terms III and of promises 10 and 11: each sentence that names one has a
 * method here, with the sentence above it.
 */
public final class EdgesPlanTest {
    private static final Check CHECK = new Check("EdgesPlanTest");
    private static final int NONE = MastMove.NONE;
    private static final int MIN = Integer.MIN_VALUE;
    private static final int MAX = Integer.MAX_VALUE;
    private static final long ALL_WEEKS = (1L << 52) - 1;

    public static void main(String[] args) {
        atMostSoManyAsCrews();
        feedNotAhead();
        feedInTheSameWeek();
        highInNoWeekOfWind();
        lowInAWeekOfWind();
        highFeedKeepsRelaysBack();
        onlyCalmWeek();
        fewestWeeks();
        firstBySets();
        emptyFirstSet();
        crewsWithinTheirLimits();
        eachBitOfTheWinds();
        bitsOfNoMatter();
        weekHasGone();
        noMasts();
        notIn52();
        justIn52();
        channelsAreGone();
        channelsStayByRefusals();
        weekOfOthers();
        CHECK.finish();
    }

    private static MastMove masts(String highs, int... feeds) {
        MastMove move = new MastMove();
        for (int m = 0; m < feeds.length; m++) {
            move.mast(0, 0, 10, feeds[m], highs.charAt(m) == 'h', 0);
        }
        return move;
    }

    private static void planned(MastMove move, int crews, long winds, int weeks, int... due) {
        CHECK.due("plan(" + crews + ", " + winds + ")", move.plan(crews, winds), weeks);
        CHECK.due("count(9)", move.count(9), weeks);
        for (int m = 0; m < due.length; m++) {
            CHECK.due("weekOf(" + m + ") by plan(" + crews + ", " + winds + ")", move.weekOf(m), due[m]);
        }
    }

    /** III: "in each week at most so many MASTS as there are crews become NEW". */
    private static void atMostSoManyAsCrews() {
        MastMove three = masts("lll", NONE, NONE, NONE);
        planned(three, 3, 0L, 1, 0, 0, 0);
        planned(three, 2, 0L, 2, 0, 1, 1);
        planned(three, 1, 0L, 3, 0, 1, 2);
        MastMove four = masts("llll", NONE, NONE, NONE, NONE);
        planned(four, 3, 0L, 2, 0, 1, 1, 1);
        planned(four, 2, 0L, 2, 0, 0, 1, 1);
    }

    /** III: "one with a FEED not ahead of it". */
    private static void feedNotAhead() {
        // Mast 1 is high and must wait, and so must 2, though its set would be the lesser one.
        planned(masts("lhl", NONE, NONE, 1), 1, 1L, 3, 0, 1, 2);
        planned(masts("hl", NONE, 0), 1, 1L, 3, 1, 2);
        planned(masts("lll", NONE, 0, 1), 1, 0L, 3, 0, 1, 2);
    }

    /** III: "(in the same week it may)". */
    private static void feedInTheSameWeek() {
        planned(masts("ll", NONE, 0), 2, 0L, 1, 0, 0);
        planned(masts("lll", NONE, 0, 1), 3, 0L, 1, 0, 0, 0);
        planned(masts("hll", NONE, 0, 1), 3, 7L, 4, 3, 3, 3);
    }

    /** III: "high ones in no week of wind". */
    private static void highInNoWeekOfWind() {
        planned(masts("h", NONE), 1, 1L, 2, 1);
        planned(masts("hh", NONE, NONE), 1, 2L, 3, 0, 2);
        planned(masts("hh", NONE, NONE), 2, 5L, 2, 1, 1);
    }

    /** III: what is not high is of no matter to the wind. */
    private static void lowInAWeekOfWind() {
        planned(masts("l", NONE), 1, -1L, 1, 0);
        planned(masts("lh", NONE, NONE), 1, 1L, 2, 0, 1);
        planned(masts("hl", NONE, NONE), 1, 1L, 2, 1, 0);
    }

    /** III: both rules at once. */
    private static void highFeedKeepsRelaysBack() {
        planned(masts("hlll", NONE, 0, 0, 0), 3, 3L, 4, 2, 3, 3, 3);
        planned(masts("lhl", NONE, 0, 1), 3, 1L, 2, 1, 1, 1);
        planned(masts("lhl", NONE, 0, 1), 1, ALL_WEEKS & ~(1L << 50), 52, 49, 50, 51);
        planned(masts("lhl", NONE, 0, 1), 1, ALL_WEEKS & ~(1L << 51), NONE, NONE, NONE, NONE);
    }

    /** III: high ones must take the calm weeks that there are; what they do not need may wait for them. */
    private static void onlyCalmWeek() {
        long calm2 = ALL_WEEKS & ~(1L << 2);
        planned(masts("hlh", NONE, 0, NONE), 1, calm2 & ~(1L << 9), 10, 2, 8, 9);
        planned(masts("hlh", NONE, 0, NONE), 2, calm2, 4, 2, 3, 2);
        planned(masts("lhhl", NONE, 0, 0, 2), 3, calm2, 3, 1, 2, 2, 2);
        planned(masts("lhhll", NONE, 0, 0, 2, 2), 3, calm2, 4, 2, 2, 2, 3, 3);
        planned(masts("lhhhl", NONE, 0, 0, 0, 3), 3, calm2, 4, 1, 2, 2, 2, 3);
    }

    /** III: "the fewest weeks (up to the last one in which a MAST becomes NEW)". */
    private static void fewestWeeks() {
        planned(masts("h", NONE), 3, ALL_WEEKS & ~(1L << 20), 21, 20);
        planned(masts("llllllllll", NONE, NONE, NONE, NONE, NONE, NONE, NONE, NONE, NONE, NONE),
            3, 0L, 4, 0, 1, 1, 1, 2, 2, 2, 3, 3, 3);
        planned(masts("llllllllll", NONE, NONE, NONE, NONE, NONE, NONE, NONE, NONE, NONE, NONE),
            1, 0L, 10, 0, 1, 2, 3, 4, 5, 6, 7, 8, 9);
    }

    /** III: "the first: by the set of those of week 0 (as a number ..; the least), then of week 1, .." */
    private static void firstBySets() {
        // {0, 1} is 3, less than {2}, which is 4: but {0} is less still, and leaves three for week 1.
        planned(masts("llll", NONE, NONE, NONE, NONE), 3, 0L, 2, 0, 1, 1, 1);
        // All of week 0 must be taken; 0 and 1 are high and can't.
        planned(masts("hhllll", NONE, NONE, NONE, NONE, NONE, NONE), 3, 1L, 2, 1, 1, 0, 0, 0, 1);
        // In week 0 the least set is {0}; in week 1 it is {1} and not {2}.
        planned(masts("lll", NONE, NONE, NONE), 1, 0L, 3, 0, 1, 2);
    }

    /** III: the least set is the empty one, where the weeks behind it are enough. */
    private static void emptyFirstSet() {
        planned(masts("lh", NONE, NONE), 2, 1L, 2, 1, 1);
        planned(masts("lh", NONE, NONE), 1, 3L, 3, 1, 2);
        planned(masts("llh", NONE, NONE, NONE), 1, 15L, 5, 2, 3, 4);
    }

    /** 10: "so many crews (1 .. 3)", "-2: other crews". */
    private static void crewsWithinTheirLimits() {
        MastMove move = masts("lll", NONE, NONE, NONE);
        planned(move, 2, 0L, 2, 0, 1, 1);
        String before = Check.seen(move);
        for (int crews : new int[] {0, -1, MIN, 4, MAX}) {
            CHECK.due("crews " + crews, move.plan(crews, 0L), -2);
        }
        CHECK.same("a plan with other crews", before, move);
        planned(move, 1, 0L, 3, 0, 1, 2);
        planned(move, 3, 0L, 1, 0, 0, 0);
        CHECK.due("other crews without masts", new MastMove().plan(0, 0L), -2);
    }

    /** 10: "the weeks of wind (bits 0 .. 51 ..)": each of them counts. */
    private static void eachBitOfTheWinds() {
        MastMove move = masts("h", NONE);
        for (int week = 0; week <= 51; week++) {
            planned(move, 1, (1L << week) - 1, week + 1, week);
        }
        planned(move, 1, ALL_WEEKS, NONE, NONE);
    }

    /** 10: "(.. others are of no matter)". */
    private static void bitsOfNoMatter() {
        MastMove move = masts("h", NONE);
        planned(move, 1, ~ALL_WEEKS, 1, 0);
        planned(move, 1, Long.MIN_VALUE, 1, 0);
        planned(move, 1, -1L & ~(1L << 51), 52, 51);
        planned(move, 1, -1L, NONE, NONE);
        planned(move, 3, ALL_WEEKS, NONE, NONE);
    }

    /** 10: "-9: a WEEK has gone". */
    private static void weekHasGone() {
        MastMove move = masts("lh", NONE, NONE);
        planned(move, 1, 0L, 2, 0, 1);
        move.channels();
        move.go();
        String before = Check.seen(move);
        CHECK.due("a week has gone", move.plan(2, 0L), -9);
        CHECK.due("that can't be, either", move.plan(1, -1L), -9);
        CHECK.due("other crews ahead of that", move.plan(4, 0L), -2);
        CHECK.same("a plan behind a week", before, move);
        CHECK.due("it goes on", move.go(), 2);
    }

    /** 10: "NONE: there are no MASTS". */
    private static void noMasts() {
        MastMove move = new MastMove();
        move.abroad(0, 0, 1, 0, 52);
        CHECK.due("no masts", move.plan(1, 0L), NONE);
        CHECK.due("count(9)", move.count(9), NONE);
        CHECK.due("no channels", move.channels(), -9);
        CHECK.due("no week", move.go(), -9);
        CHECK.due("a mast may come", move.mast(0, 0, 1, NONE, false, 0), 0);
    }

    /** 10: "or it can't be in 52 (there is no plan then)". */
    private static void notIn52() {
        MastMove move = masts("hhhh", NONE, NONE, NONE, NONE);
        planned(move, 3, 0L, 2, 0, 1, 1, 1);
        planned(move, 3, ALL_WEEKS & ~1L, NONE, NONE, NONE, NONE, NONE);
        planned(move, 3, ALL_WEEKS & ~(1L << 51), NONE, NONE, NONE, NONE, NONE);
        planned(move, 1, ALL_WEEKS & ~7L, NONE, NONE, NONE, NONE, NONE);
        CHECK.due("no channels", move.channels(), -9);
        CHECK.due("no week", move.go(), -9);
        CHECK.due("a mast may come", move.mast(0, 0, 1, NONE, false, 0), 4);
    }

    /** 10: the same, one mast or one week less. */
    private static void justIn52() {
        MastMove move = masts("hhhh", NONE, NONE, NONE, NONE);
        planned(move, 3, ALL_WEEKS & ~1L & ~(1L << 51), 52, 0, 51, 51, 51);
        planned(move, 2, ALL_WEEKS & ~(3L << 50), 52, 50, 50, 51, 51);
        planned(move, 1, ALL_WEEKS & ~(15L << 48), 52, 48, 49, 50, 51);
        planned(masts("hhh", NONE, NONE, NONE), 3, ALL_WEEKS & ~(1L << 51), 52, 51, 51, 51);
    }

    /** 10: "New channels that there were are gone". */
    private static void channelsAreGone() {
        MastMove move = masts("h", NONE);
        move.plan(1, 0L);
        move.channels();
        CHECK.due("there are channels", move.channelOf(0), 0);
        CHECK.due("a plan", move.plan(1, 0L), 1);
        CHECK.due("they are gone", move.channelOf(0), NONE);
        CHECK.due("no week without them", move.go(), -9);
        move.channels();
        CHECK.due("none that can be", move.plan(1, -1L), NONE);
        CHECK.due("they are gone", move.channelOf(0), NONE);
        move.plan(1, 0L);
        CHECK.due("they do not come back", move.channelOf(0), NONE);
        CHECK.due("no week without them", move.go(), -9);
    }

    /** 10: "but by -2, -9." */
    private static void channelsStayByRefusals() {
        MastMove move = masts("h", NONE);
        move.plan(1, 0L);
        move.channels();
        CHECK.due("other crews", move.plan(0, 0L), -2);
        CHECK.due("channels stay", move.channelOf(0), 0);
        CHECK.due("a week goes by", move.go(), 1);
        CHECK.due("a week has gone", move.plan(1, 0L), -9);
        CHECK.due("channels stay", move.channelOf(0), 0);
        CHECK.due("a week goes by", move.go(), 2);
    }

    /** 11: "NONE without a plan; -2: there is none such." */
    private static void weekOfOthers() {
        MastMove move = new MastMove();
        CHECK.due("no mast", move.weekOf(0), -2);
        move.mast(0, 0, 1, NONE, false, 0);
        move.abroad(0, 0, 1, 0, 1);
        CHECK.due("no plan", move.weekOf(0), NONE);
        for (int planned = 0; planned < 2; planned++) {
            for (int m : new int[] {-1, MIN, 1, 9, 10, MAX}) {
                CHECK.due("weekOf(" + m + ")", move.weekOf(m), -2);
            }
            move.plan(1, 0L);
        }
        CHECK.due("the plan's", move.weekOf(0), 0);
        move.channels();
        for (int week = 0; week < 52; week++) {
            move.go();
        }
        CHECK.due("as planned, behind all weeks", move.weekOf(0), 0);
    }
}
