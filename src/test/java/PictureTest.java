/** Promises 20 to 25, and count(7): failures, pictures, snow, hurt and blame. */
public final class PictureTest {
    private static final Check CHECK = new Check("PictureTest");
    private static final int NONE = MastMove.NONE;

    public static void main(String[] args) {
        failures();
        noneSuch();
        kindsInOrder();
        hurtByNumber();
        hurtByChannelNow();
        boxes();
        blame();
        CHECK.finish();
    }

    private static void failures() {
        MastMove move = new MastMove();
        for (int m = 0; m < 10; m++) {
            move.mast(0, 0, 1, m - 1, false, 0);
        }
        CHECK.due("fail(9, false)", move.fail(9, false), false);
        CHECK.due("fail(4, true)", move.fail(4, true), true);
        CHECK.due("fail(4, true)", move.fail(4, true), false);
        CHECK.due("mastOf(4, 7)", move.mastOf(4, 7), 1);
        CHECK.due("mastOf(5, 7)", move.mastOf(5, 7), 0);
        for (int m = 0; m < 10; m++) {
            CHECK.due("on(" + m + ")", move.on(m), m < 4 ? 1 : 0);
        }
        move.fail(9, true);
        CHECK.due("fail(4, false)", move.fail(4, false), true);
        for (int m = 0; m < 10; m++) {
            CHECK.due("on(" + m + ")", move.on(m), m < 9 ? 1 : 0);
        }
        move.fail(9, false);
        move.fail(0, true);
        CHECK.due("on(9)", move.on(9), 0);
    }

    private static void noneSuch() {
        MastMove move = new MastMove();
        move.mast(0, 0, 1, NONE, false, 0);
        move.area(0, 0, 1, 0, 0);
        move.abroad(0, 0, 1, 0, 9);
        for (int n : new int[] {-1, 1, 10, Integer.MAX_VALUE, Integer.MIN_VALUE}) {
            CHECK.due("fail(" + n + ")", move.fail(n, true), false);
            CHECK.due("on(" + n + ")", move.on(n), -2);
            CHECK.due("picture(" + n + ")", move.picture(n), -2);
            CHECK.due("snow(" + n + ")", move.snow(n), -2);
            CHECK.due("hurt(" + n + ")", move.hurt(n), NONE);
        }
    }

    private static void kindsInOrder() {
        MastMove move = new MastMove();
        move.mast(0, 0, 100, NONE, false, 3);
        move.mast(0, 0, 100, NONE, false, 3);
        move.mast(0, 0, 100, 0, false, 4);
        move.area(0, 0, 60, 0, 0);
        CHECK.due("looks at none", move.picture(0), 1);
        CHECK.due("snow", move.snow(0), 60);
        CHECK.due("hurt by none", move.hurt(0), NONE);
        move.aim(0, 0);
        CHECK.due("hurt", move.picture(0), 3);
        CHECK.due("snow", move.snow(0), 60);
        CHECK.due("by 1", move.hurt(0), 1);
        move.fail(0, true);
        CHECK.due("off ahead of hurt", move.picture(0), 2);
        CHECK.due("hurt still", move.hurt(0), 1);
        CHECK.due("snow", move.snow(0), 60);
        move.terms(10001, 10);
        CHECK.due("weak ahead of off", move.picture(0), 1);
        CHECK.due("hurt still", move.hurt(0), 1);
        move.terms(10000, 10);
        move.aim(0, 2);
        CHECK.due("its feed is off", move.picture(0), 2);
        move.fail(0, false);
        CHECK.due("all is well", move.picture(0), 0);
        CHECK.due("snow", move.snow(0), 0);
        move.aim(0, 0);
        move.fail(1, true);
        CHECK.due("what is off does not hurt", move.picture(0), 0);
        CHECK.due("hurt by none", move.hurt(0), NONE);
    }

    private static void hurtByNumber() {
        MastMove move = new MastMove();
        move.mast(0, 0, 100, NONE, false, 3);
        move.area(0, 0, 60, 0, 0);
        move.aim(0, 0);
        move.abroad(0, 0, 100, 4, 52);
        CHECK.due("another channel", move.hurt(0), NONE);
        move.abroad(0, 0, 10, 3, 52);
        CHECK.due("ten times is not above", move.hurt(0), NONE);
        move.abroad(0, 0, 11, 3, 0);
        CHECK.due("it is off in week 0", move.hurt(0), NONE);
        move.abroad(0, 0, 11, 3, 1);
        CHECK.due("abroad 3", move.hurt(0), 13);
        CHECK.due("picture", move.picture(0), 3);
        move.mast(0, 0, 5, NONE, false, 3);
        move.mast(0, 0, 50, NONE, false, 3);
        move.mast(0, 0, 50, NONE, false, 3);
        CHECK.due("the least", move.hurt(0), 2);
        move.area(0, 0, 60, 0, 0);
        move.aim(1, 3);
        CHECK.due("mast 0 is the least", move.hurt(1), 0);
        move.fail(2, true);
        CHECK.due("the next", move.hurt(0), 3);
        move.fail(3, true);
        CHECK.due("abroad 3", move.hurt(0), 13);
    }

    private static void hurtByChannelNow() {
        MastMove move = new MastMove();
        move.mast(0, 0, 100, NONE, false, 0);
        move.mast(60, 60, 100, NONE, false, 5);
        move.area(0, 0, 60, 0, 0);
        move.area(60, 60, 0, 0, 0);
        move.turn();
        move.plan(1, 0L);
        CHECK.due("channels", move.channels(), 1);
        move.abroad(0, 0, 100, 0, 2);
        move.abroad(60, 60, 100, 5, 52);
        CHECK.due("old channel", move.hurt(0), 10);
        CHECK.due("old channel", move.hurt(1), 11);
        move.go();
        CHECK.due("the same new one", move.hurt(0), 10);
        CHECK.due("old channel", move.hurt(1), 11);
        move.go();
        CHECK.due("off from week 2 on", move.hurt(0), NONE);
        CHECK.due("on a new channel", move.hurt(1), NONE);
        CHECK.due("NEW, with no boxes", move.picture(0), 4);
        CHECK.due("NEW, with no homes", move.picture(1), 0);
        move.abroad(60, 60, 100, 0, 3);
        CHECK.due("on its new channel", move.hurt(1), 12);
        CHECK.due("count(7)", move.count(7), 60);
    }

    private static void boxes() {
        MastMove move = new MastMove();
        move.mast(0, 0, 100, NONE, false, 0);
        move.mast(0, 0, 100, NONE, true, 6);
        move.area(0, 0, 60, 0, 0);
        move.area(0, 0, 40, 0, 0);
        move.area(0, 0, 7, 0, 0);
        move.aim(0, 0);
        move.aim(1, 1);
        move.plan(1, 1L);
        move.channels();
        move.deliver(90);
        Check.law(move, "give 30;cap 40");
        CHECK.due("an area that looks at none", move.count(7), 7);
        move.go();
        CHECK.due("NEW", move.picture(0), 4);
        CHECK.due("homes without a box", move.snow(0), 30);
        CHECK.due("OLD", move.picture(1), 0);
        CHECK.due("snow", move.snow(1), 0);
        CHECK.due("count(7)", move.count(7), 37);
        move.go();
        CHECK.due("all have boxes", move.picture(0), 0);
        CHECK.due("NEW", move.picture(1), 4);
        CHECK.due("20 have boxes", move.snow(1), 20);
        move.go();
        CHECK.due("stock is gone", move.count(4), 0);
        CHECK.due("30 have boxes", move.snow(1), 10);
        CHECK.due("count(7)", move.count(7), 17);
        move.fail(1, true);
        CHECK.due("off, all homes", move.snow(1), 40);
        CHECK.due("count(7)", move.count(7), 47);
    }

    private static void blame() {
        MastMove move = new MastMove();
        for (int m = 0; m < 10; m++) {
            move.mast(0, 0, 1, m == 3 ? 2 : NONE, false, 0);
        }
        for (int a = 0; a < 16; a++) {
            move.area(0, 0, 1, 0, 0);
        }
        for (int a = 0; a < 10; a++) {
            move.aim(a, 9 - a);
        }
        move.aim(10, 0);
        CHECK.due("no areas", move.blame(0), 0);
        CHECK.due("area 0", move.blame(1), 1 << 9);
        CHECK.due("its feed is of no matter", move.blame(1 << 6), 1 << 3);
        CHECK.due("what it feeds is of no matter", move.blame(1 << 7), 1 << 2);
        CHECK.due("areas 0 and 1", move.blame(3), 3 << 8);
        CHECK.due("one of two", move.blame(1 << 9), NONE);
        move.aim(1, 9);
        CHECK.due("another looks there, and more behind it do elsewhere", move.blame(1), NONE);
        move.aim(1, 8);
        CHECK.due("the other of two", move.blame(1 << 10 | 1), NONE);
        CHECK.due("both", move.blame(3 << 9), 1);
        CHECK.due("areas that look at none", move.blame(31 << 11), 0);
        CHECK.due("one with them", move.blame(31 << 11 | 1), 1 << 9);
        CHECK.due("all", move.blame(65535), 1023);
        CHECK.due("a 17th", move.blame(65536), -2);
        CHECK.due("far beyond", move.blame(1 << 30 | 1), -2);
        CHECK.due("bit 31", move.blame(Integer.MIN_VALUE), -2);
        CHECK.due("-1", move.blame(-1), -2);
    }
}
