/**
 * The boundary cases of Terms II and IV and of promises 12 and 13: each sentence that names one has
 * a method here, with the sentence above it.
 */
public final class EdgesChannelsTest {
    private static final Check CHECK = new Check("EdgesChannelsTest");
    private static final int NONE = MastMove.NONE;
    private static final int MIN = Integer.MIN_VALUE;
    private static final int MAX = Integer.MAX_VALUE;

    public static void main(String[] args) {
        nearIsAboveOnly();
        nearBothWays();
        nearAbroadIsAboveOnly();
        nearAbroadByItsOwnAreasOnly();
        nearIsNotBeingOn();
        laterWeekOnly();
        abroadInTheWeekOrBehind();
        lastChannelOfTwelve();
        noChannelOfTwelve();
        backToTheMastAhead();
        fullAt20000();
        oneMastHasItsFirst();
        noPlan();
        weekHasGone();
        whatThereWasIsGone();
        unlikeOnes();
        channelOfOthers();
        CHECK.finish();
    }

    private static void channelsAre(MastMove move, int... due) {
        for (int m = 0; m < due.length; m++) {
            CHECK.due("channelOf(" + m + ")", move.channelOf(m), due[m]);
        }
    }

    /** Masts of one place and one week, and an area there that looks at the first. */
    private static MastMove together(int... powers) {
        MastMove move = new MastMove();
        for (int power : powers) {
            move.mast(0, 0, power, NONE, false, 0);
        }
        move.area(0, 0, 9, 0, 0);
        move.aim(0, 0);
        move.plan(3, 0L);
        return move;
    }

    /** II: "RATIO times its STRENGTH there is above that of m". */
    private static void nearIsAboveOnly() {
        MastMove just = together(100, 10);
        CHECK.due("ten times is not above", just.channels(), 1);
        channelsAre(just, 0, 0);
        just.terms(1000, 11);
        CHECK.due("eleven times is", just.channels(), 2);
        channelsAre(just, 0, 1);
        MastMove above = together(100, 11);
        CHECK.due("above", above.channels(), 2);
        above.terms(1000, 1);
        CHECK.due("one time is not", above.channels(), 1);
        MastMove alike = together(100, 100);
        alike.terms(1000, 1);
        CHECK.due("as strong is not above by RATIO 1", alike.channels(), 1);
        // The greatest strength 100 times must not go around.
        MastMove strong = together(10000, 10000);
        strong.terms(1000, 100);
        CHECK.due("the strongest", strong.channels(), 2);
    }

    /** II: "if one of them HURTS an AREA that looks at the other one". */
    private static void nearBothWays() {
        MastMove move = together(100, 100, 100);
        CHECK.due("1 and 2 hurt what looks at 0", move.channels(), 2);
        channelsAre(move, 0, 1, 1);
        move.aim(0, 1);
        CHECK.due("0 and 2 hurt what looks at 1", move.channels(), 2);
        channelsAre(move, 0, 1, 0);
        move.aim(0, 2);
        CHECK.due("0 and 1 hurt what looks at 2", move.channels(), 2);
        channelsAre(move, 0, 0, 1);
        move.aim(0, NONE);
        CHECK.due("no area looks", move.channels(), 1);
        channelsAre(move, 0, 0, 0);
    }

    /** II: "a MAST and one ABROAD if that one HURTS an AREA that looks at it." */
    private static void nearAbroadIsAboveOnly() {
        MastMove move = together(100);
        move.abroad(0, 0, 10, 0, 52);
        CHECK.due("ten times is not above", move.channels(), 1);
        channelsAre(move, 0);
        move.terms(1000, 11);
        CHECK.due("eleven times is", move.channels(), 1);
        channelsAre(move, 1);
        move.abroad(0, 0, 9, 1, 52);
        CHECK.due("99 is not above 100", move.channels(), 1);
        channelsAre(move, 1);
        move.terms(1000, 12);
        CHECK.due("108 is", move.channels(), 1);
        channelsAre(move, 2);
    }

    /** II: not by an AREA that looks at another one. */
    private static void nearAbroadByItsOwnAreasOnly() {
        MastMove move = together(100, 1);
        move.abroad(0, 0, 100, 0, 52);
        CHECK.due("0 is near it, 1 is not", move.channels(), 2);
        channelsAre(move, 1, 0);
        move.aim(0, NONE);
        move.channels();
        channelsAre(move, 0, 0);
    }

    /** II names neither channels nor being ON. */
    private static void nearIsNotBeingOn() {
        MastMove move = together(100, 100);
        move.fail(0, true);
        move.fail(1, true);
        CHECK.due("near all the same", move.channels(), 2);
        channelsAre(move, 0, 1);
    }

    /** IV: "unlike the old one of one that is NEAR and becomes NEW in a later week". */
    private static void laterWeekOnly() {
        MastMove move = new MastMove();
        move.mast(0, 0, 100, NONE, false, 5);
        move.mast(0, 0, 100, NONE, true, 0);
        move.area(0, 0, 9, 0, 0);
        move.aim(0, 0);
        move.plan(1, 1L);
        CHECK.due("1 is later", move.channels(), 2);
        channelsAre(move, 1, 0);
        CHECK.due("looks", move.count(10), 2 + 1);
        move.plan(2, 0L);
        CHECK.due("both in one week", move.channels(), 2);
        channelsAre(move, 0, 1);
        MastMove first = new MastMove();
        first.mast(0, 0, 100, NONE, true, 5);
        first.mast(0, 0, 100, NONE, false, 0);
        first.area(0, 0, 9, 0, 0);
        first.aim(0, 0);
        first.plan(1, 1L);
        CHECK.due("1 is earlier", first.channels(), 2);
        channelsAre(first, 0, 1);
        first.aim(0, NONE);
        first.channels();
        channelsAre(first, 0, 0);
        MastMove later = new MastMove();
        later.mast(0, 0, 100, NONE, true, 1);
        later.mast(0, 0, 100, NONE, false, 0);
        later.area(0, 0, 9, 0, 0);
        later.aim(0, 1);
        later.plan(1, 1L);
        CHECK.due("0 is later", later.channels(), 2);
        channelsAre(later, 0, 2);
        CHECK.due("looks", later.count(10), 1 + 3);
    }

    /** IV: "one ABROAD that is NEAR and is on in or behind the MAST's week". */
    private static void abroadInTheWeekOrBehind() {
        for (int week = 0; week <= 51; week += 17) {
            MastMove move = new MastMove();
            move.mast(0, 0, 100, NONE, true, 0);
            move.area(0, 0, 9, 0, 0);
            move.aim(0, 0);
            move.plan(1, (1L << week) - 1);
            CHECK.due("weekOf(0)", move.weekOf(0), week);
            move.abroad(0, 0, 100, 0, week);
            move.channels();
            CHECK.due("on until the week before", move.channelOf(0), 0);
            move.abroad(0, 0, 100, 0, week + 1);
            move.channels();
            CHECK.due("on in the week", move.channelOf(0), 1);
            move.abroad(0, 0, 100, 1, 52);
            move.channels();
            CHECK.due("on behind the week", move.channelOf(0), 2);
        }
    }

    /** Mast 0 in week 0, near eight later ones with channels 0 to 7 and three abroad with 8 to 10. */
    private static MastMove elevenTaken() {
        MastMove move = new MastMove();
        move.mast(0, 0, 100, NONE, false, 0);
        for (int c = 0; c < 8; c++) {
            move.mast(0, 0, 100, 0, true, c);
        }
        for (int c = 8; c < 11; c++) {
            move.abroad(0, 0, 100, c, 52);
        }
        move.area(0, 0, 9, 0, 0);
        move.aim(0, 0);
        move.plan(1, 0L);
        return move;
    }

    /** IV: "NEW CHANNELS 0 .. 11". */
    private static void lastChannelOfTwelve() {
        MastMove move = elevenTaken();
        CHECK.due("channels", move.channels(), 2);
        channelsAre(move, 11, 0, 0, 0, 0, 0, 0, 0, 0);
        CHECK.due("looks", move.count(10), 12 + 8);
    }

    /** 12: "NONE: there are none that would do". */
    private static void noChannelOfTwelve() {
        MastMove move = elevenTaken();
        move.abroad(0, 0, 100, 11, 52);
        CHECK.due("none would do", move.channels(), NONE);
        CHECK.due("looks", move.count(10), 12);
        channelsAre(move, NONE, NONE, NONE, NONE, NONE, NONE, NONE, NONE, NONE);
        CHECK.due("no week without them", move.go(), -9);
        CHECK.due("the plan stays", move.count(9), 9);
    }

    /** IV: "where there is none, back to the MAST ahead and on to its next one". */
    private static void backToTheMastAhead() {
        MastMove move = new MastMove();
        move.mast(0, 0, 100, NONE, false, 11);
        move.mast(0, 0, 100, NONE, false, 11);
        for (int c = 1; c <= 8; c++) {
            move.mast(50, 50, 100, NONE, true, c);
        }
        for (int c = 9; c <= 11; c++) {
            move.abroad(0, 0, 100, c, 52);
        }
        move.area(0, 0, 9, 0, 0);
        move.aim(0, 1);
        // At a RATIO of 100 the eight of far away are not near: 1 may be 1, and 0 need not change.
        move.terms(1, 100);
        move.plan(2, 1L);
        CHECK.due("no way back is needed", move.channels(), 2);
        channelsAre(move, 0, 1);
        move.area(48, 48, 9, 0, 0);
        move.aim(1, 1);
        CHECK.due("near an area of its own there", move.channels(), 2);
        channelsAre(move, 1, 0, 1, 1, 1, 1, 1, 1, 1, 1);
        CHECK.due("looks", move.count(10), 1 + 12 + 1 + 1 + 8 * 2);
    }

    /** Nine of week 1 and behind, with channels 0 to 8, and one of week 0 for which there is none. */
    private static MastMove hopeless() {
        MastMove move = new MastMove();
        for (int m = 0; m < 9; m++) {
            move.mast(0, 0, 1, NONE, true, m);
        }
        move.mast(0, 0, 1, NONE, false, 0);
        for (int c = 9; c < 12; c++) {
            move.abroad(0, 0, 1, c, 52);
        }
        move.area(0, 0, 9, 0, 0);
        move.plan(1, 1L);
        return move;
    }

    /** IV: "FULL it is if 20000 were and the last MAST has none yet"; 12: "(or FULL: -4)". */
    private static void fullAt20000() {
        MastMove move = hopeless();
        CHECK.due("no area looks", move.channels(), 1);
        CHECK.due("looks", move.count(10), 10);
        move.aim(0, 9);
        CHECK.due("full", move.channels(), -4);
        CHECK.due("looks", move.count(10), 20000);
        channelsAre(move, NONE, NONE, NONE, NONE, NONE, NONE, NONE, NONE, NONE, NONE);
        CHECK.due("what there was is gone", move.go(), -9);
        CHECK.due("the plan stays", move.count(9), 10);
        move.aim(0, NONE);
        CHECK.due("found anew", move.channels(), 1);
        CHECK.due("counted anew", move.count(10), 10);
        CHECK.due("a week goes by", move.go(), 1);
    }

    /** IV: "from 0 on, the first". */
    private static void oneMastHasItsFirst() {
        MastMove move = new MastMove();
        move.mast(0, 0, 1, NONE, false, 11);
        move.plan(1, 0L);
        CHECK.due("channels", move.channels(), 1);
        channelsAre(move, 0);
        CHECK.due("looks", move.count(10), 1);
    }

    /** 12: "-9: there is no plan". */
    private static void noPlan() {
        MastMove move = new MastMove();
        CHECK.due("no masts", move.channels(), -9);
        move.mast(0, 0, 1, NONE, true, 0);
        CHECK.due("no plan", move.channels(), -9);
        CHECK.due("no looks", move.count(10), 0);
        move.plan(1, 0L);
        move.channels();
        move.plan(1, -1L);
        CHECK.due("none any more", move.channels(), -9);
        CHECK.due("looks of the latest that was not -9", move.count(10), 1);
    }

    /** 12: "or a WEEK has gone. (What there was is gone then, but by -9.)" */
    private static void weekHasGone() {
        MastMove move = together(100, 100);
        move.channels();
        move.go();
        move.aim(0, NONE);
        String before = Check.seen(move);
        CHECK.due("a week has gone", move.channels(), -9);
        CHECK.same("channels() behind a week", before, move);
        channelsAre(move, 0, 1);
        CHECK.due("it goes on", move.go(), 2);
    }

    /** 12: "(What there was is gone then ..)" */
    private static void whatThereWasIsGone() {
        MastMove move = elevenTaken();
        CHECK.due("channels", move.channels(), 2);
        move.abroad(0, 0, 100, 11, 52);
        CHECK.due("they stay, though they hurt now", move.channelOf(0), 11);
        CHECK.due("none", move.channels(), NONE);
        channelsAre(move, NONE, NONE, NONE, NONE, NONE, NONE, NONE, NONE, NONE);
        CHECK.due("no week", move.go(), -9);
    }

    /** 12: "how many unlike ones". */
    private static void unlikeOnes() {
        MastMove move = new MastMove();
        for (int m = 0; m < 10; m++) {
            move.mast(0, 0, 100, NONE, false, 11);
            move.area(0, 0, 9, 0, 0);
            move.aim(m, m);
        }
        move.plan(3, 0L);
        CHECK.due("ten unlike", move.channels(), 10);
        channelsAre(move, 0, 1, 2, 3, 4, 5, 6, 7, 8, 9);
        CHECK.due("looks", move.count(10), 55);
    }

    /** 13: "NONE without; -2: there is none such." */
    private static void channelOfOthers() {
        MastMove move = new MastMove();
        CHECK.due("no mast", move.channelOf(0), -2);
        move.mast(0, 0, 1, NONE, false, 7);
        move.abroad(0, 0, 1, 0, 1);
        CHECK.due("no channels", move.channelOf(0), NONE);
        move.plan(1, 0L);
        CHECK.due("a plan alone", move.channelOf(0), NONE);
        move.channels();
        for (int m : new int[] {-1, MIN, 1, 9, 10, MAX}) {
            CHECK.due("channelOf(" + m + ")", move.channelOf(m), -2);
        }
        CHECK.due("ahead of its week", move.channelOf(0), 0);
        move.go();
        CHECK.due("behind it", move.channelOf(0), 0);
        CHECK.due("its old one", move.mastOf(0, 5), 7);
    }
}
