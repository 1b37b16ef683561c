/** Promises 12 and 13, and count(10): new channels and how they are looked for. */
public final class ChannelsTest {
    private static final Check CHECK = new Check("ChannelsTest");
    private static final int NONE = MastMove.NONE;

    public static void main(String[] args) {
        refused();
        nearMasts();
        nearOneWay();
        laterOldChannels();
        abroadByWeeks();
        backAndOn();
        full();
        foundByTheLastLook();
        foundOneLookTooLate();
        CHECK.finish();
    }

    private static void channelsAre(MastMove move, int... due) {
        for (int m = 0; m < due.length; m++) {
            CHECK.due("channelOf(" + m + ")", move.channelOf(m), due[m]);
        }
    }

    private static void refused() {
        MastMove move = new MastMove();
        CHECK.due("no plan", move.channels(), -9);
        CHECK.due("no mast", move.channelOf(0), -2);
        move.mast(0, 0, 1, NONE, false, 3);
        CHECK.due("no plan", move.channels(), -9);
        CHECK.due("none yet", move.channelOf(0), NONE);
        CHECK.due("no mast", move.channelOf(1), -2);
        CHECK.due("no mast", move.channelOf(-1), -2);
        move.plan(1, 0L);
        CHECK.due("one", move.channels(), 1);
        CHECK.due("one look", move.count(10), 1);
        move.go();
        CHECK.due("a week has gone", move.channels(), -9);
        channelsAre(move, 0);
        CHECK.due("looks stay by -9", move.count(10), 1);
    }

    /** Masts at one place; an area looks at each of the first so many. */
    private static MastMove crowd(int masts, int areas, int crews) {
        MastMove move = new MastMove();
        for (int m = 0; m < masts; m++) {
            move.mast(0, 0, 100, NONE, false, 11);
        }
        for (int a = 0; a < areas; a++) {
            move.area(0, 0, 9, 0, 0);
            move.aim(a, a);
        }
        move.plan(crews, 0L);
        return move;
    }

    private static void nearMasts() {
        MastMove move = crowd(3, 3, 3);
        CHECK.due("three unlike", move.channels(), 3);
        channelsAre(move, 0, 1, 2);
        CHECK.due("looks", move.count(10), 1 + 2 + 3);
        move.terms(1000, 1);
        CHECK.due("none is near at RATIO 1", move.channels(), 1);
        channelsAre(move, 0, 0, 0);
    }

    private static void nearOneWay() {
        MastMove move = crowd(3, 2, 3);
        move.aim(0, 2);
        move.aim(1, 2);
        CHECK.due("all are near 2 alone", move.channels(), 2);
        channelsAre(move, 0, 0, 1);
        move.aim(0, 0);
        move.aim(1, 0);
        CHECK.due("all are near 0 alone", move.channels(), 2);
        channelsAre(move, 0, 1, 1);
        move.aim(0, NONE);
        move.aim(1, NONE);
        CHECK.due("none looks", move.channels(), 1);
    }

    private static void laterOldChannels() {
        MastMove move = new MastMove();
        move.mast(0, 0, 100, NONE, false, 0);
        move.mast(0, 0, 100, NONE, false, 0);
        move.mast(0, 0, 100, NONE, false, 1);
        move.area(0, 0, 9, 0, 0);
        move.aim(0, 0);
        move.plan(1, 0L);
        CHECK.due("channels", move.channels(), 2);
        channelsAre(move, 2, 0, 0);
        CHECK.due("looks", move.count(10), 3 + 1 + 1);
        move.plan(3, 0L);
        CHECK.due("in one week", move.channels(), 2);
        channelsAre(move, 0, 1, 1);
        move.plan(2, 0L);
        CHECK.due("0 ahead of 1 and 2", move.channels(), 2);
        channelsAre(move, 2, 0, 0);
        MastMove high = new MastMove();
        high.mast(0, 0, 100, NONE, true, 0);
        high.mast(0, 0, 100, NONE, false, 7);
        high.area(0, 0, 9, 0, 0);
        high.aim(0, 1);
        high.plan(1, 1L);
        CHECK.due("0 behind 1", high.channels(), 2);
        channelsAre(high, 0, 1);
        CHECK.due("looks", high.count(10), 1 + 2);
    }

    private static void abroadByWeeks() {
        MastMove move = crowd(2, 2, 1);
        move.terms(1000, 100);
        move.abroad(0, 0, 1, 0, 0);
        CHECK.due("never on, and too weak", move.channels(), 2);
        channelsAre(move, 0, 1);
        move.abroad(0, 0, 2, 0, 1);
        CHECK.due("on in week 0", move.channels(), 2);
        channelsAre(move, 1, 0);
        move.abroad(0, 0, 2, 1, 2);
        CHECK.due("on in week 1 too", move.channels(), 2);
        channelsAre(move, 2, 0);
        move.abroad(0, 0, 2, 0, 52);
        CHECK.due("on for ever", move.channels(), 2);
        channelsAre(move, 2, 3);
    }

    /** Mast 1 finds none unless mast 0 leaves it the only one that is free for it. */
    private static void backAndOn() {
        MastMove move = new MastMove();
        move.mast(0, 0, 1000, NONE, false, 5);
        move.mast(50, 0, 100, NONE, false, 5);
        for (int c = 1; c <= 8; c++) {
            move.mast(50, 0, 100, 1, true, c);
        }
        for (int c = 9; c <= 11; c++) {
            move.abroad(50, 0, 100, c, 52);
        }
        move.area(50, 0, 9, 0, 0);
        move.aim(0, 1);
        move.terms(1000, 10);
        // Wind till week 9 keeps the high ones behind 0 and 1.
        CHECK.due("plan", move.plan(1, 1023L), 18);
        CHECK.due("weekOf(1)", move.weekOf(1), 9);
        CHECK.due("mast 0 is not near", move.channels(), 2);
        channelsAre(move, 0, 0, 1, 1, 1, 1, 1, 1, 1, 1);
        move.terms(1000, 100);
        CHECK.due("back to mast 0", move.channels(), 2);
        channelsAre(move, 1, 0, 1, 1, 1, 1, 1, 1, 1, 1);
        CHECK.due("looks", move.count(10), 1 + 12 + 1 + 1 + 8 * 2);
        move.abroad(50, 0, 100, 0, 52);
        CHECK.due("none would do", move.channels(), NONE);
        channelsAre(move, NONE, NONE, NONE);
        CHECK.due("all looks, 5 being mast 1's old one", move.count(10), 12 + 11 * 12);
        CHECK.due("go()", move.go(), -9);
    }

    /** Mast 9 is near nine that become NEW later, with channels 0 to 8, and three abroad. */
    private static void full() {
        MastMove move = new MastMove();
        for (int m = 0; m < 9; m++) {
            move.mast(0, 0, 1, NONE, true, m);
        }
        move.mast(0, 0, 1, NONE, false, 0);
        move.area(0, 0, 9, 0, 0);
        move.aim(0, 9);
        for (int c = 0; c < 3; c++) {
            move.abroad(0, 0, 1, 9 + c, 52);
        }
        move.plan(1, 1L);
        CHECK.due("week of 9", move.weekOf(9), 0);
        CHECK.due("full", move.channels(), -4);
        CHECK.due("looks", move.count(10), 20000);
        channelsAre(move, NONE, NONE, NONE, NONE, NONE, NONE, NONE, NONE, NONE, NONE);
        CHECK.due("go()", move.go(), -9);
        CHECK.due("the plan stays", move.count(9), 10);
        move.aim(0, NONE);
        CHECK.due("found again", move.channels(), 1);
        CHECK.due("looks", move.count(10), 10);
    }

    private static MastMove land(int[][] masts, int[][] areas, int[][] abroad) {
        MastMove move = new MastMove();
        for (int[] m : masts) {
            move.mast(m[0], m[1], 50, NONE, false, m[2]);
        }
        for (int[] a : areas) {
            move.aim(move.area(a[0], a[1], 9, 0, 0), a[2]);
        }
        for (int[] s : abroad) {
            move.abroad(s[0], s[1], 50, s[2], s[3]);
        }
        return move;
    }

    /** A land that was looked for until the last mast's channel was the 20000th look. */
    private static void foundByTheLastLook() {
        MastMove move = land(
            new int[][] {{0, 10, 4}, {23, 17, 6}, {25, 24, 2}, {24, 28, 1}, {5, 10, 3}, {5, 19, 0},
                {25, 30, 4}, {15, 2, 0}, {14, 2, 7}, {12, 12, 0}},
            new int[][] {{26, 10, 8}, {7, 9, 1}, {24, 7, 4}, {7, 0, 1}, {8, 5, 1}, {13, 30, 9}, {6, 13, 7},
                {5, 8, 7}, {14, 8, 1}, {29, 29, 0}, {15, 6, 0}, {13, 13, 5}, {18, 8, 6}},
            new int[][] {{23, 8, 4, 13}, {23, 2, 11, 35}, {28, 8, 0, 13}, {7, 13, 3, 19}});
        move.terms(1000, 54);
        move.plan(1, 0L);
        CHECK.due("found by look 20000", move.channels(), 9);
        CHECK.due("looks", move.count(10), 20000);
        CHECK.due("go()", move.go(), 1);
    }

    /** A land that was looked for until one look more would have found the last mast's channel. */
    private static void foundOneLookTooLate() {
        MastMove move = land(
            new int[][] {{22, 19, 10}, {20, 8, 3}, {29, 23, 2}, {1, 12, 5}, {12, 4, 7}, {22, 30, 3},
                {6, 18, 7}, {0, 6, 0}, {18, 6, 11}, {13, 1, 7}},
            new int[][] {{28, 1, 9}, {17, 13, 6}, {2, 22, 8}, {26, 13, 6}, {11, 11, 6}, {1, 29, 7}, {10, 18, 5},
                {6, 0, 9}, {19, 16, 4}, {10, 7, 6}, {26, 17, 3}, {3, 15, 1}, {24, 12, 3}, {20, 5, 7}},
            new int[][] {{21, 5, 6, 35}, {7, 28, 5, 39}, {0, 28, 0, 14}, {18, 18, 4, 21}});
        move.terms(1000, 37);
        move.plan(2, 0L);
        CHECK.due("full ahead of look 20001", move.channels(), -4);
        CHECK.due("looks", move.count(10), 20000);
        CHECK.due("channelOf(0)", move.channelOf(0), NONE);
        CHECK.due("go()", move.go(), -9);
    }
}
