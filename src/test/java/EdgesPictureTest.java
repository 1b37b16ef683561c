/**
 * The boundary cases of Terms I (ON), II and VI and of promises 20 to 25: each sentence that names
 * one has a method here, with the sentence above it.
 */
public final class EdgesPictureTest {
    private static final Check CHECK = new Check("EdgesPictureTest");
    private static final int NONE = MastMove.NONE;
    private static final int MIN = Integer.MIN_VALUE;
    private static final int MAX = Integer.MAX_VALUE;

    public static void main(String[] args) {
        failChanges();
        failOthers();
        onByItsFeeds();
        onOthers();
        looksAtNone();
        belowLeast();
        mastIsNotOn();
        hurtIsAboveOnly();
        hurtByAnother();
        hurtByWhatIsOn();
        hurtWhileAbroadIsOn();
        abroadBehindAllWeeks();
        hurtByTheChannelOfNow();
        fewerBoxesThanHomes();
        areaWithoutHomes();
        firstOfThese();
        homesWithoutAPicture();
        pictureAndSnowOfOthers();
        hurtTheLeastNumber();
        hurtOfOthers();
        blameNone();
        blameOfNoMatter();
        blameHalf();
        blameSetHasOthers();
        blameAll();
        CHECK.finish();
    }

    /** Masts of one place and one channel, and an area there that looks at the first. */
    private static MastMove together(int... powers) {
        MastMove move = new MastMove();
        for (int power : powers) {
            move.mast(0, 0, power, NONE, false, 0);
        }
        move.area(0, 0, 60, 0, 0);
        move.aim(0, 0);
        return move;
    }

    private static void is(MastMove move, String why, int picture, int snow, int hurt) {
        CHECK.due("picture, " + why, move.picture(0), picture);
        CHECK.due("snow, " + why, move.snow(0), snow);
        CHECK.due("hurt, " + why, move.hurt(0), hurt);
    }

    /** 20: "whether that changed something". */
    private static void failChanges() {
        MastMove move = together(100);
        CHECK.due("it has not failed", move.fail(0, false), false);
        CHECK.due("it fails", move.fail(0, true), true);
        CHECK.due("mastOf(0, 7)", move.mastOf(0, 7), 1);
        CHECK.due("it has failed", move.fail(0, true), false);
        CHECK.due("not any more", move.fail(0, false), true);
        CHECK.due("mastOf(0, 7)", move.mastOf(0, 7), 0);
    }

    /** 20: a MAST that there is not changes nothing. */
    private static void failOthers() {
        MastMove move = together(100);
        move.abroad(0, 0, 1, 0, 52);
        String before = Check.seen(move);
        for (int m : new int[] {-1, MIN, 1, 9, 10, MAX}) {
            CHECK.due("fail(" + m + ", true)", move.fail(m, true), false);
            CHECK.due("fail(" + m + ", false)", move.fail(m, false), false);
        }
        CHECK.same("fail() of others", before, move);
        move.mast(0, 0, 1, NONE, false, 0);
        CHECK.due("one that came later has not failed", move.on(1), 1);
    }

    /** I: "ON is a MAST that has not FAILED and whose FEED, if it has one, is ON." */
    private static void onByItsFeeds() {
        MastMove move = new MastMove();
        for (int m = 0; m < 10; m++) {
            move.mast(0, 0, 1, m - 1, false, 0);
        }
        CHECK.due("the last of a chain of ten", move.on(9), 1);
        for (int failed = 0; failed < 10; failed++) {
            move.fail(failed, true);
            for (int m = 0; m < 10; m++) {
                CHECK.due("on(" + m + ") without " + failed, move.on(m), m < failed ? 1 : 0);
            }
            move.fail(failed, false);
        }
        CHECK.due("the last of ten", move.on(9), 1);
    }

    /** 21: "-2: there is none such." */
    private static void onOthers() {
        MastMove move = together(100);
        move.abroad(0, 0, 1, 0, 52);
        for (int m : new int[] {-1, MIN, 1, 9, 10, MAX}) {
            CHECK.due("on(" + m + ")", move.on(m), -2);
        }
    }

    /** VI: "1 its AERIALS look at none". */
    private static void looksAtNone() {
        MastMove move = new MastMove();
        move.area(0, 0, 60, 0, 0);
        is(move, "without masts", 1, 60, NONE);
        move.mast(0, 0, 100, NONE, false, 0);
        move.abroad(0, 0, 100, 0, 52);
        is(move, "none is looked at", 1, 60, NONE);
        move.aim(0, 0);
        is(move, "a mast is looked at", 3, 60, 10);
        move.aim(0, NONE);
        is(move, "none any more", 1, 60, NONE);
    }

    /** VI: "or the MAST's STRENGTH there is below LEAST". */
    private static void belowLeast() {
        MastMove move = together(10);
        is(move, "LEAST 1000 of a new object", 0, 0, NONE);
        move.terms(1001, 10);
        is(move, "one below", 1, 60, NONE);
        move.terms(1000, 10);
        is(move, "as strong", 0, 0, NONE);
        move.terms(1, 10);
        is(move, "the least LEAST", 0, 0, NONE);
        MastMove strong = together(10000);
        strong.terms(1000000, 10);
        is(strong, "the greatest LEAST", 0, 0, NONE);
        MastMove weak = together(9999);
        weak.terms(1000000, 10);
        is(weak, "just below it", 1, 60, NONE);
        MastMove far = new MastMove();
        far.mast(0, 0, 1, NONE, false, 0);
        far.area(100, 100, 60, 0, 0);
        far.turn();
        far.terms(1, 10);
        is(far, "a strength of 0", 1, 60, NONE);
    }

    /** VI: "2 that MAST is not ON". */
    private static void mastIsNotOn() {
        MastMove move = new MastMove();
        move.mast(0, 0, 100, NONE, false, 0);
        move.mast(0, 0, 100, 0, false, 1);
        move.area(0, 0, 60, 0, 0);
        move.aim(0, 1);
        is(move, "both are on", 0, 0, NONE);
        move.fail(0, true);
        is(move, "its feed failed", 2, 60, NONE);
        move.fail(0, false);
        move.fail(1, true);
        is(move, "it failed", 2, 60, NONE);
        move.aim(0, 0);
        is(move, "its feed is on", 0, 0, NONE);
    }

    /** II: "RATIO times its STRENGTH there is above that of m". */
    private static void hurtIsAboveOnly() {
        MastMove move = together(100, 10);
        is(move, "ten times is not above, by a new object's RATIO", 0, 0, NONE);
        move.terms(1000, 11);
        is(move, "eleven times is", 3, 60, 1);
        move.terms(1000, 9);
        is(move, "nine times is not", 0, 0, NONE);
        MastMove abroad = together(100);
        abroad.abroad(0, 0, 1, 0, 52);
        abroad.terms(1000, 100);
        is(abroad, "a hundred times is not above", 0, 0, NONE);
        abroad.abroad(0, 0, 2, 0, 52);
        is(abroad, "above", 3, 60, 11);
        MastMove strong = together(10000, 10000);
        strong.terms(1000, 100);
        is(strong, "the strongest", 3, 60, 1);
        strong.terms(1000, 1);
        is(strong, "as strong, by RATIO 1", 0, 0, NONE);
    }

    /** VI: "another MAST": not its own. */
    private static void hurtByAnother() {
        MastMove move = together(100);
        move.terms(1000, 100);
        is(move, "by itself it is not", 0, 0, NONE);
    }

    /** VI: "another MAST that is ON". */
    private static void hurtByWhatIsOn() {
        MastMove move = new MastMove();
        move.mast(0, 0, 100, NONE, false, 0);
        move.mast(90, 90, 1, NONE, false, 1);
        move.mast(0, 0, 100, 1, false, 0);
        move.area(0, 0, 60, 0, 0);
        move.aim(0, 0);
        is(move, "on", 3, 60, 2);
        move.fail(1, true);
        is(move, "its feed failed", 0, 0, NONE);
        move.fail(1, false);
        move.fail(2, true);
        is(move, "it failed", 0, 0, NONE);
    }

    /** I: "they are on as long as the WEEK is below theirs." */
    private static void hurtWhileAbroadIsOn() {
        MastMove move = together(100);
        move.plan(1, 0L);
        move.channels();
        move.abroad(0, 0, 100, 0, 0);
        CHECK.due("until 0, WEEK 0", move.hurt(0), NONE);
        move.abroad(0, 0, 100, 0, 1);
        CHECK.due("until 1, WEEK 0", move.hurt(0), 11);
        move.abroad(0, 0, 100, 0, 3);
        move.go();
        CHECK.due("until 1, WEEK 1", move.hurt(0), 12);
        move.go();
        CHECK.due("until 3, WEEK 2", move.hurt(0), 12);
        move.go();
        CHECK.due("until 3, WEEK 3", move.hurt(0), NONE);
        move.abroad(0, 0, 100, 0, 4);
        CHECK.due("until 4, WEEK 3", move.hurt(0), 13);
    }

    /** I: the same for the last WEEK that there is, and behind it. */
    private static void abroadBehindAllWeeks() {
        MastMove move = together(100);
        move.plan(1, 0L);
        move.channels();
        move.abroad(0, 0, 100, 0, 52);
        for (int week = 0; week < 51; week++) {
            move.go();
        }
        is(move, "until 52, WEEK 51", 3, 60, 10);
        move.go();
        is(move, "until 52, WEEK 52", 4, 60, NONE);
    }

    /** VI: "has the channel that its MAST has now". */
    private static void hurtByTheChannelOfNow() {
        MastMove move = new MastMove();
        move.mast(0, 0, 100, NONE, false, 7);
        move.mast(0, 0, 100, NONE, false, 0);
        move.area(0, 0, 60, 0, 0);
        move.aim(0, 0);
        move.plan(1, 0L);
        move.channels();
        CHECK.due("0 will have 1", move.channelOf(0), 1);
        move.abroad(0, 0, 100, 7, 52);
        move.abroad(0, 0, 100, 1, 52);
        CHECK.due("on its old channel", move.hurt(0), 10);
        move.go();
        CHECK.due("on its new channel", move.hurt(0), 11);
        move.aim(0, 1);
        CHECK.due("1 has its old one, 0 its new one", move.hurt(0), NONE);
        move.go();
        CHECK.due("1 has 0 as it had", move.hurt(0), NONE);
        move.abroad(0, 0, 100, 0, 52);
        CHECK.due("that too", move.hurt(0), 12);
    }

    /** VI: "4 its MAST is NEW, and it has fewer boxes than homes". */
    private static void fewerBoxesThanHomes() {
        MastMove move = together(100);
        move.plan(1, 0L);
        move.channels();
        move.deliver(1000);
        is(move, "OLD, and no boxes", 0, 0, NONE);
        Check.law(move, "give 59");
        move.go();
        is(move, "one box too few", 4, 1, NONE);
        Check.law(move, "give 1");
        move.go();
        is(move, "a box for each home", 0, 0, NONE);
    }

    /** VI: no boxes are not fewer than no homes. */
    private static void areaWithoutHomes() {
        MastMove move = new MastMove();
        move.mast(0, 0, 100, NONE, false, 0);
        move.area(0, 0, 0, 0, 0);
        is(move, "none is looked at", 1, 0, NONE);
        move.aim(0, 0);
        move.plan(1, 0L);
        move.channels();
        move.go();
        is(move, "NEW", 0, 0, NONE);
        move.fail(0, true);
        is(move, "off", 2, 0, NONE);
    }

    /** VI: "An AREA's picture, the first of these". */
    private static void firstOfThese() {
        MastMove move = together(100);
        move.plan(1, 0L);
        move.channels();
        move.go();
        is(move, "4 alone", 4, 60, NONE);
        move.abroad(0, 0, 100, 0, 52);
        is(move, "3 ahead of 4", 3, 60, 10);
        move.fail(0, true);
        CHECK.due("2 ahead of 3 and 4", move.picture(0), 2);
        move.terms(10001, 10);
        CHECK.due("1 ahead of 2, 3 and 4", move.picture(0), 1);
        move.fail(0, false);
        CHECK.due("1 ahead of 3 and 4", move.picture(0), 1);
        move.terms(10000, 1);
        is(move, "4 alone again", 4, 60, NONE);
    }

    /** VI: "by 1, 2, 3 all homes, by 4 those without a box, by 0 none", and count(7). */
    private static void homesWithoutAPicture() {
        MastMove move = together(100);
        move.area(0, 0, 40, 0, 0);
        move.plan(1, 0L);
        move.channels();
        move.deliver(50);
        Check.law(move, "give 50");
        CHECK.due("area 1 looks at none", move.count(7), 40);
        move.go();
        is(move, "by 4", 4, 10, NONE);
        CHECK.due("both", move.count(7), 50);
        move.terms(10001, 10);
        is(move, "by 1", 1, 60, NONE);
        move.terms(1000, 10);
        move.fail(0, true);
        is(move, "by 2", 2, 60, NONE);
        move.fail(0, false);
        move.abroad(0, 0, 100, 0, 52);
        is(move, "by 3", 3, 60, 10);
        CHECK.due("both", move.count(7), 100);
        MastMove many = new MastMove();
        for (int a = 0; a < 16; a++) {
            many.area(0, 0, 100000, 0, 0);
        }
        CHECK.due("all homes of all areas", many.count(7), 1600000);
    }

    /** 22, 23: "-2: there is none such." */
    private static void pictureAndSnowOfOthers() {
        MastMove move = together(100);
        for (int a : new int[] {-1, MIN, 1, 15, 16, MAX}) {
            CHECK.due("picture(" + a + ")", move.picture(a), -2);
            CHECK.due("snow(" + a + ")", move.snow(a), -2);
        }
        CHECK.due("of a new object", new MastMove().picture(0), -2);
        CHECK.due("of a new object", new MastMove().snow(0), -2);
    }

    /** 24: "(or one ABROAD: 10 and its number) .., the least number". */
    private static void hurtTheLeastNumber() {
        MastMove move = new MastMove();
        for (int s = 0; s < 3; s++) {
            move.abroad(0, 0, 100, 1, 52);
        }
        move.abroad(0, 0, 100, 0, 52);
        for (int m = 0; m < 10; m++) {
            move.mast(0, 0, 100, NONE, false, m < 8 && m > 0 ? 1 : 0);
        }
        move.area(0, 0, 60, 0, 0);
        move.aim(0, 0);
        CHECK.due("of 8, 9 and 13", move.hurt(0), 8);
        move.fail(8, true);
        CHECK.due("of 9 and 13", move.hurt(0), 9);
        move.fail(9, true);
        CHECK.due("13 alone", move.hurt(0), 13);
        move.aim(0, 1);
        CHECK.due("of 2 to 7 and 10 to 12", move.hurt(0), 2);
        for (int m = 2; m < 8; m++) {
            move.fail(m, true);
        }
        CHECK.due("of 10 to 12", move.hurt(0), 10);
        move.aim(0, 9);
        CHECK.due("of 0 and 13, its own being off", move.hurt(0), 0);
    }

    /** 24: "NONE: by none, or there is none such." */
    private static void hurtOfOthers() {
        MastMove move = together(100, 100);
        CHECK.due("by 1", move.hurt(0), 1);
        for (int a : new int[] {-1, MIN, 1, 15, 16, MAX}) {
            CHECK.due("hurt(" + a + ")", move.hurt(a), NONE);
        }
        move.fail(1, true);
        CHECK.due("by none", move.hurt(0), NONE);
        CHECK.due("of a new object", new MastMove().hurt(0), NONE);
    }

    /** Three masts; areas 0 and 1 look at mast 2, area 2 at mast 0, area 3 at none. */
    private static MastMove looking() {
        MastMove move = new MastMove();
        for (int m = 0; m < 3; m++) {
            move.mast(0, 0, 1, m - 1, false, 0);
        }
        for (int a = 0; a < 4; a++) {
            move.area(0, 0, 9, 0, 0);
        }
        move.aim(0, 2);
        move.aim(1, 2);
        move.aim(2, 0);
        return move;
    }

    /** 25: the empty set needs no MAST. */
    private static void blameNone() {
        CHECK.due("without areas", new MastMove().blame(0), 0);
        MastMove move = looking();
        CHECK.due("no area", move.blame(0), 0);
        move.fail(0, true);
        CHECK.due("what is off is of no matter", move.blame(0), 0);
    }

    /** 25: "(those that look at none are of no matter)". */
    private static void blameOfNoMatter() {
        MastMove move = looking();
        CHECK.due("area 3 alone", move.blame(8), 0);
        CHECK.due("area 2", move.blame(4), 1);
        CHECK.due("areas 2 and 3", move.blame(12), 1);
        CHECK.due("areas 0 and 1", move.blame(3), 4);
        CHECK.due("areas 0, 1 and 3", move.blame(11), 4);
    }

    /** 25: "NONE: there are none such". */
    private static void blameHalf() {
        MastMove move = looking();
        CHECK.due("area 1 looks there too", move.blame(1), NONE);
        CHECK.due("area 0 looks there too", move.blame(2), NONE);
        CHECK.due("with area 2", move.blame(5), NONE);
        CHECK.due("with area 3", move.blame(10), NONE);
        move.aim(0, NONE);
        CHECK.due("area 0 looks there no more", move.blame(2), 4);
    }

    /** 25: "-2: the set has others." */
    private static void blameSetHasOthers() {
        CHECK.due("without areas", new MastMove().blame(1), -2);
        MastMove move = looking();
        CHECK.due("all that there are", move.blame(15), 5);
        for (int set : new int[] {16, 17, 19, 1 << 15, 1 << 16, 1 << 30, MIN, MAX, -1, -16}) {
            CHECK.due("blame(" + set + ")", move.blame(set), -2);
        }
    }

    /** 25: sixteen AREAS and ten MASTS. */
    private static void blameAll() {
        MastMove move = new MastMove();
        for (int m = 0; m < 10; m++) {
            move.mast(0, 0, 1, NONE, false, 0);
        }
        for (int a = 0; a < 16; a++) {
            move.area(0, 0, 9, 0, 0);
            move.aim(a, a % 10);
        }
        CHECK.due("all", move.blame(65535), 1023);
        CHECK.due("the last area and area 5", move.blame(1 << 15 | 1 << 5), 1 << 5);
        CHECK.due("the last area", move.blame(1 << 15), NONE);
        CHECK.due("those that look at 9", move.blame(1 << 9), 1 << 9);
        CHECK.due("a 17th", move.blame(65536), -2);
        CHECK.due("a 17th with all", move.blame(131071), -2);
        CHECK.due("bit 31 with all", move.blame(MIN | 65535), -2);
    }
}
