/**
 * The boundary cases of Terms I and of promises 1 to 5, 7 to 9, 26 and 27: each sentence that names
 * one has a method here, with the sentence above it.
 */
public final class EdgesLandTest {
    private static final Check CHECK = new Check("EdgesLandTest");
    private static final int NONE = MastMove.NONE;
    private static final int MIN = Integer.MIN_VALUE;
    private static final int MAX = Integer.MAX_VALUE;

    public static void main(String[] args) {
        newObject();
        newTerms();
        leastWithinItsLimits();
        ratioWithinItsLimits();
        refusedTermsStay();
        mastPlace();
        mastPower();
        mastFeed();
        mastChannel();
        tenMasts();
        mastWithPlan();
        mastRefusalsInOrder();
        abroadPlaceAndPower();
        abroadChannel();
        abroadUntil();
        fourAbroad();
        abroadAtAnyTime();
        areaPlace();
        areaHomes();
        areaPoorAndAged();
        sixteenAreas();
        areaAtAnyTime();
        aimToNone();
        aimRefused();
        turnToLeastOfSeveral();
        turnWithoutMasts();
        turnCountsThoseThatTurned();
        strengthIsCut();
        strengthAtItsLimits();
        strengthNumbers();
        mastOfOthers();
        areaOfOthers();
        CHECK.finish();
    }

    private static int plainMast(MastMove move) {
        return move.mast(0, 0, 10, NONE, false, 0);
    }

    private static int plainArea(MastMove move) {
        return move.area(0, 0, 9, 1, 2);
    }

    /** 1: "No MASTS, AREAS; WEEK 0, .. no plan, no channels, no LAW; SLOTS have nothing; an empty TAPE." */
    private static void newObject() {
        MastMove move = new MastMove();
        int[] counts = {0, 0, 0, 0, 0, 0, 0, 0, 0, NONE, 0};
        for (int what = 0; what < counts.length; what++) {
            CHECK.due("count(" + what + ")", move.count(what), counts[what]);
        }
        CHECK.due("no mast", move.mastOf(0, 0), -2);
        CHECK.due("no area", move.areaOf(0, 0), -2);
        CHECK.due("no plan", move.weekOf(0), -2);
        CHECK.due("no channels", move.go(), -9);
        CHECK.due("no byte", move.end(1), NONE);
        for (int slot = 0; slot <= 3; slot++) {
            CHECK.due("nothing in slot " + slot, move.write(slot, 0, 0), -5);
        }
    }

    /** 1: "LEAST 1000, RATIO 10". */
    private static void newTerms() {
        MastMove move = new MastMove();
        move.mast(0, 0, 1006, NONE, false, 0);
        move.mast(0, 0, 1007, NONE, false, 1);
        move.area(31, 6, 9, 0, 0);
        move.aim(0, 0);
        CHECK.due("strength", move.strength(0, 0), 999);
        CHECK.due("999 is below LEAST", move.picture(0), 1);
        move.aim(0, 1);
        CHECK.due("strength", move.strength(1, 0), 1000);
        CHECK.due("1000 is not", move.picture(0), 0);
        move.abroad(31, 6, 1, 1, 52);
        CHECK.due("10 times 100 is not above 1000", move.picture(0), 0);
        move.mast(31, 6, 9, NONE, false, 3);
        move.abroad(31, 6, 1, 3, 52);
        move.aim(0, 2);
        CHECK.due("900 is below LEAST", move.picture(0), 1);
        CHECK.due("10 times 100 is above 900", move.hurt(0), 11);
    }

    /** 2: "LEAST (1 .. 1000000)". */
    private static void leastWithinItsLimits() {
        MastMove move = new MastMove();
        CHECK.due("LEAST 1", move.terms(1, 10), 0);
        CHECK.due("LEAST 1000000", move.terms(1000000, 10), 0);
        for (int least : new int[] {0, -1, MIN, 1000001, MAX}) {
            CHECK.due("LEAST " + least, move.terms(least, 10), -2);
        }
    }

    /** 2: "RATIO (1 .. 100)". */
    private static void ratioWithinItsLimits() {
        MastMove move = new MastMove();
        CHECK.due("RATIO 1", move.terms(1000, 1), 0);
        CHECK.due("RATIO 100", move.terms(1000, 100), 0);
        for (int ratio : new int[] {0, -1, MIN, 101, MAX}) {
            CHECK.due("RATIO " + ratio, move.terms(1000, ratio), -2);
        }
    }

    /** 2: "-2: they are not as told." Neither is taken if one is wrong. */
    private static void refusedTermsStay() {
        MastMove move = new MastMove();
        plainMast(move);
        move.mast(0, 0, 1, NONE, false, 0);
        plainArea(move);
        move.aim(0, 0);
        CHECK.due("strength is LEAST, and just RATIO times the other", move.picture(0), 0);
        move.terms(1001, 0);
        move.terms(1001, 101);
        CHECK.due("LEAST stays", move.picture(0), 0);
        move.terms(0, 11);
        move.terms(1000001, 11);
        CHECK.due("RATIO stays", move.picture(0), 0);
        move.terms(1000, 11);
        CHECK.due("RATIO 11", move.picture(0), 3);
        move.terms(1001, 11);
        CHECK.due("LEAST 1001", move.picture(0), 1);
    }

    private static final int[] BEYOND_PLACE = {-1, MIN, 101, MAX};
    private static final int[] BEYOND_POWER = {0, -1, MIN, 10001, MAX};
    private static final int[] BEYOND_CHANNEL = {-1, MIN, 12, MAX};

    /** 3: "-2: x, y are not 0 .. 100". */
    private static void mastPlace() {
        MastMove move = new MastMove();
        for (int wrong : BEYOND_PLACE) {
            CHECK.due("x " + wrong, move.mast(wrong, 0, 1, NONE, false, 0), -2);
            CHECK.due("y " + wrong, move.mast(0, wrong, 1, NONE, false, 0), -2);
        }
        CHECK.due("count(1)", move.count(1), 0);
        CHECK.due("0, 100", move.mast(0, 100, 1, NONE, false, 0), 0);
        CHECK.due("100, 0", move.mast(100, 0, 1, NONE, false, 0), 1);
        CHECK.due("x of 0", move.mastOf(0, 0), 0);
        CHECK.due("y of 0", move.mastOf(0, 1), 100);
        CHECK.due("x of 1", move.mastOf(1, 0), 100);
        CHECK.due("y of 1", move.mastOf(1, 1), 0);
    }

    /** 3: "POWER not 1 .. 10000". */
    private static void mastPower() {
        MastMove move = new MastMove();
        for (int wrong : BEYOND_POWER) {
            CHECK.due("power " + wrong, move.mast(0, 0, wrong, NONE, false, 0), -2);
        }
        CHECK.due("count(1)", move.count(1), 0);
        CHECK.due("power 1", move.mast(0, 0, 1, NONE, false, 0), 0);
        CHECK.due("power 10000", move.mast(0, 0, 10000, NONE, false, 0), 1);
        CHECK.due("power of 0", move.mastOf(0, 2), 1);
        CHECK.due("power of 1", move.mastOf(1, 2), 10000);
    }

    /** 3: "its FEED is neither NONE nor a MAST that there is". */
    private static void mastFeed() {
        MastMove move = new MastMove();
        move.abroad(0, 0, 1, 0, 52);
        for (int wrong : new int[] {0, -2, MIN, 10, MAX}) {
            CHECK.due("feed " + wrong + " of the first", move.mast(0, 0, 1, wrong, false, 0), -2);
        }
        CHECK.due("feed NONE", move.mast(0, 0, 1, NONE, false, 0), 0);
        CHECK.due("feed itself", move.mast(0, 0, 1, 1, false, 0), -2);
        CHECK.due("feed 0", move.mast(0, 0, 1, 0, false, 0), 1);
        CHECK.due("feed the latest", move.mast(0, 0, 1, 1, false, 0), 2);
        CHECK.due("one abroad", move.mast(0, 0, 1, 10, false, 0), -2);
        CHECK.due("feed of 0", move.mastOf(0, 3), NONE);
        CHECK.due("feed of 1", move.mastOf(1, 3), 0);
        CHECK.due("feed of 2", move.mastOf(2, 3), 1);
    }

    /** 3: "the channel not 0 .. 11". */
    private static void mastChannel() {
        MastMove move = new MastMove();
        for (int wrong : BEYOND_CHANNEL) {
            CHECK.due("channel " + wrong, move.mast(0, 0, 1, NONE, false, wrong), -2);
        }
        CHECK.due("count(1)", move.count(1), 0);
        CHECK.due("channel 0", move.mast(0, 0, 1, NONE, false, 0), 0);
        CHECK.due("channel 11", move.mast(0, 0, 1, NONE, false, 11), 1);
        CHECK.due("old channel of 0", move.mastOf(0, 5), 0);
        CHECK.due("old channel of 1", move.mastOf(1, 5), 11);
    }

    /** I: "MASTS 0 .., 10 at most"; 3: "-3: there are 10". */
    private static void tenMasts() {
        MastMove move = new MastMove();
        for (int m = 0; m < 10; m++) {
            CHECK.due("mast " + m, plainMast(move), m);
        }
        String before = Check.seen(move);
        CHECK.due("an 11th", plainMast(move), -3);
        CHECK.same("an 11th", before, move);
        CHECK.due("there is a 10th", move.on(9), 1);
        CHECK.due("there is no 11th", move.on(10), -2);
    }

    /** 3: "-9: there is a plan." */
    private static void mastWithPlan() {
        MastMove move = new MastMove();
        move.mast(0, 0, 10, NONE, true, 0);
        CHECK.due("plan", move.plan(1, 0L), 1);
        String before = Check.seen(move);
        CHECK.due("a mast with a plan", plainMast(move), -9);
        CHECK.same("a mast with a plan", before, move);
        CHECK.due("channels", move.channels(), 1);
        move.go();
        CHECK.due("a mast behind a week", plainMast(move), -9);
        MastMove without = new MastMove();
        without.mast(0, 0, 10, NONE, true, 0);
        without.plan(1, 0L);
        CHECK.due("no plan can be", without.plan(1, -1L), NONE);
        CHECK.due("a mast without a plan", plainMast(without), 1);
    }

    /** 3: of several refusals the one that is told first. */
    private static void mastRefusalsInOrder() {
        MastMove move = new MastMove();
        for (int m = 0; m < 10; m++) {
            plainMast(move);
        }
        CHECK.due("-2 ahead of -3", move.mast(0, 0, 0, NONE, false, 0), -2);
        move.plan(1, 0L);
        CHECK.due("-3 ahead of -9", plainMast(move), -3);
        MastMove one = new MastMove();
        plainMast(one);
        one.plan(1, 0L);
        CHECK.due("-2 ahead of -9", one.mast(0, 0, 0, NONE, false, 0), -2);
    }

    /** 4: "-2: as mast()". */
    private static void abroadPlaceAndPower() {
        MastMove move = new MastMove();
        for (int wrong : BEYOND_PLACE) {
            CHECK.due("x " + wrong, move.abroad(wrong, 0, 1, 0, 1), -2);
            CHECK.due("y " + wrong, move.abroad(0, wrong, 1, 0, 1), -2);
        }
        for (int wrong : BEYOND_POWER) {
            CHECK.due("power " + wrong, move.abroad(0, 0, wrong, 0, 1), -2);
        }
        CHECK.due("count(2)", move.count(2), 0);
        CHECK.due("0, 100, power 1", move.abroad(0, 100, 1, 0, 1), 0);
        CHECK.due("100, 0, power 10000", move.abroad(100, 0, 10000, 0, 1), 1);
        move.area(0, 100, 1, 0, 0);
        move.area(100, 0, 1, 0, 0);
        CHECK.due("at its place", move.strength(10, 0), 100);
        CHECK.due("at its place", move.strength(11, 1), 1000000);
    }

    /** 4: "-2: as mast()", the channel. */
    private static void abroadChannel() {
        MastMove move = new MastMove();
        for (int wrong : BEYOND_CHANNEL) {
            CHECK.due("channel " + wrong, move.abroad(0, 0, 1, wrong, 1), -2);
        }
        CHECK.due("count(2)", move.count(2), 0);
        CHECK.due("channel 0", move.abroad(0, 0, 1, 0, 1), 0);
        CHECK.due("channel 11", move.abroad(0, 0, 1, 11, 1), 1);
        plainArea(move);
        move.mast(0, 0, 1, NONE, false, 0);
        move.mast(0, 0, 1, NONE, false, 11);
        move.aim(0, 0);
        CHECK.due("hurt on channel 0", move.hurt(0), 10);
        move.aim(0, 1);
        CHECK.due("hurt on channel 11", move.hurt(0), 11);
    }

    /** 4: "WEEK until which it is on not 0 .. 52". */
    private static void abroadUntil() {
        MastMove move = new MastMove();
        for (int wrong : new int[] {-1, MIN, 53, MAX}) {
            CHECK.due("until " + wrong, move.abroad(0, 0, 1, 0, wrong), -2);
        }
        CHECK.due("count(2)", move.count(2), 0);
        CHECK.due("until 0", move.abroad(0, 0, 1, 0, 0), 0);
        CHECK.due("until 52", move.abroad(0, 0, 1, 0, 52), 1);
    }

    /** I: "Masts ABROAD, 4 at most"; 4: "-3: there are 4". */
    private static void fourAbroad() {
        MastMove move = new MastMove();
        plainArea(move);
        for (int s = 0; s < 4; s++) {
            CHECK.due("abroad " + s, move.abroad(0, 0, s + 1, 0, 1), s);
        }
        String before = Check.seen(move);
        CHECK.due("a 5th", move.abroad(0, 0, 9, 0, 1), -3);
        CHECK.due("a 5th that is wrong", move.abroad(0, 0, 0, 0, 1), -2);
        CHECK.same("a 5th", before, move);
        CHECK.due("the 4th is as it was", move.strength(13, 0), 400);
        CHECK.due("there is no 5th", move.strength(14, 0), -2);
    }

    /** 4 names no -9: neither a plan nor a week that has gone refuses one. */
    private static void abroadAtAnyTime() {
        MastMove move = new MastMove();
        plainMast(move);
        move.plan(1, 0L);
        CHECK.due("with a plan", move.abroad(0, 0, 1, 0, 1), 0);
        move.channels();
        move.go();
        CHECK.due("behind a week", move.abroad(0, 0, 1, 0, 1), 1);
        CHECK.due("the channels stay", move.channelOf(0), 0);
    }

    /** 5: "-2: x, y are not 0 .. 100". */
    private static void areaPlace() {
        MastMove move = new MastMove();
        for (int wrong : BEYOND_PLACE) {
            CHECK.due("x " + wrong, move.area(wrong, 0, 9, 0, 0), -2);
            CHECK.due("y " + wrong, move.area(0, wrong, 9, 0, 0), -2);
        }
        CHECK.due("count(3)", move.count(3), 0);
        CHECK.due("0, 100", move.area(0, 100, 9, 0, 0), 0);
        CHECK.due("100, 0", move.area(100, 0, 9, 0, 0), 1);
        move.mast(0, 100, 1, NONE, false, 0);
        move.mast(100, 0, 1, NONE, false, 0);
        CHECK.due("at one place", move.strength(0, 0), 100);
        CHECK.due("at one place", move.strength(1, 1), 100);
    }

    /** 5: "homes not 0 .. 100000". */
    private static void areaHomes() {
        MastMove move = new MastMove();
        for (int wrong : new int[] {-1, MIN, 100001, MAX}) {
            CHECK.due("homes " + wrong, move.area(0, 0, wrong, 0, 0), -2);
        }
        CHECK.due("count(3)", move.count(3), 0);
        CHECK.due("homes 0", move.area(0, 0, 0, 0, 0), 0);
        CHECK.due("homes 100000", move.area(0, 0, 100000, 0, 0), 1);
        CHECK.due("homes of 0", move.areaOf(0, 0), 0);
        CHECK.due("homes of 1", move.areaOf(1, 0), 100000);
    }

    /** 5: "POOR, AGED not 0 .. homes". */
    private static void areaPoorAndAged() {
        MastMove move = new MastMove();
        for (int wrong : new int[] {-1, MIN, 8, MAX}) {
            CHECK.due("poor " + wrong, move.area(0, 0, 7, wrong, 0), -2);
            CHECK.due("aged " + wrong, move.area(0, 0, 7, 0, wrong), -2);
        }
        CHECK.due("poor without homes", move.area(0, 0, 0, 1, 0), -2);
        CHECK.due("aged without homes", move.area(0, 0, 0, 0, 1), -2);
        CHECK.due("count(3)", move.count(3), 0);
        CHECK.due("all of them poor", move.area(0, 0, 7, 7, 0), 0);
        CHECK.due("all of them aged", move.area(0, 0, 7, 0, 7), 1);
        CHECK.due("poor of 0", move.areaOf(0, 1), 7);
        CHECK.due("aged of 0", move.areaOf(0, 2), 0);
        CHECK.due("poor of 1", move.areaOf(1, 1), 0);
        CHECK.due("aged of 1", move.areaOf(1, 2), 7);
    }

    /** I: "AREAS 0 .., 16 at most"; 5: "-3: there are 16". */
    private static void sixteenAreas() {
        MastMove move = new MastMove();
        for (int a = 0; a < 16; a++) {
            CHECK.due("area " + a, plainArea(move), a);
            CHECK.due("it looks at none", move.areaOf(a, 4), NONE);
        }
        String before = Check.seen(move);
        CHECK.due("a 17th", plainArea(move), -3);
        CHECK.due("a 17th that is wrong", move.area(0, 0, 9, 10, 0), -2);
        CHECK.same("a 17th", before, move);
        CHECK.due("there is a 16th", move.picture(15), 1);
        CHECK.due("there is no 17th", move.picture(16), -2);
    }

    /** 5 names no -9. */
    private static void areaAtAnyTime() {
        MastMove move = new MastMove();
        plainMast(move);
        move.plan(1, 0L);
        CHECK.due("with a plan", plainArea(move), 0);
        move.channels();
        move.go();
        CHECK.due("behind a week", plainArea(move), 1);
    }

    /** 7: "(NONE: to none): to which they looked (NONE)". */
    private static void aimToNone() {
        MastMove move = new MastMove();
        plainArea(move);
        CHECK.due("from none to none", move.aim(0, NONE), NONE);
        CHECK.due("that is no turn", move.areaOf(0, 5), 0);
        plainMast(move);
        CHECK.due("from none to 0", move.aim(0, 0), NONE);
        CHECK.due("from 0 to none", move.aim(0, NONE), 0);
        CHECK.due("it looks at none", move.areaOf(0, 4), NONE);
        CHECK.due("two turns", move.areaOf(0, 5), 2);
    }

    /** 7: "-2: there are none such." */
    private static void aimRefused() {
        MastMove move = new MastMove();
        plainMast(move);
        plainArea(move);
        move.abroad(0, 0, 1, 0, 52);
        move.aim(0, 0);
        String before = Check.seen(move);
        for (int wrong : new int[] {1, -2, MIN, 10, MAX}) {
            CHECK.due("mast " + wrong, move.aim(0, wrong), -2);
        }
        for (int wrong : new int[] {1, -1, MIN, 16, MAX}) {
            CHECK.due("area " + wrong, move.aim(wrong, 0), -2);
            CHECK.due("area " + wrong + " to none", move.aim(wrong, NONE), -2);
        }
        CHECK.same("a refused aim", before, move);
    }

    /** 8: "(the least number of several ..)". */
    private static void turnToLeastOfSeveral() {
        MastMove move = new MastMove();
        move.mast(0, 0, 9, NONE, false, 0);
        for (int m = 1; m < 10; m++) {
            move.mast(0, 0, 10, NONE, false, 0);
        }
        plainArea(move);
        CHECK.due("turn()", move.turn(), 1);
        CHECK.due("the least of nine", move.areaOf(0, 4), 1);
        // 1000 * 20 / 10 and 1000 * 22 / 11 are the same.
        MastMove apart = new MastMove();
        apart.mast(1, 0, 22, NONE, false, 0);
        apart.mast(0, 0, 20, NONE, false, 0);
        plainArea(apart);
        apart.turn();
        CHECK.due("the least of two apart", apart.areaOf(0, 4), 0);
    }

    /** 8: "(.. without MASTS: to none)". */
    private static void turnWithoutMasts() {
        MastMove move = new MastMove();
        CHECK.due("without areas", move.turn(), 0);
        plainArea(move);
        move.abroad(0, 0, 1, 0, 52);
        CHECK.due("without masts", move.turn(), 0);
        CHECK.due("to none", move.areaOf(0, 4), NONE);
        CHECK.due("how often", move.areaOf(0, 5), 0);
    }

    /** 8: "how many turned": not those that look there already. */
    private static void turnCountsThoseThatTurned() {
        MastMove move = new MastMove();
        plainMast(move);
        for (int a = 0; a < 16; a++) {
            plainArea(move);
        }
        move.aim(7, 0);
        CHECK.due("all but one", move.turn(), 15);
        CHECK.due("none", move.turn(), 0);
        CHECK.due("area 7 turned by aim alone", move.areaOf(7, 5), 1);
        CHECK.due("area 15 turned once", move.areaOf(15, 5), 1);
    }

    /** I: "1000 * POWER / (10 + d) (cut)". */
    private static void strengthIsCut() {
        MastMove move = new MastMove();
        move.mast(0, 0, 1, NONE, false, 0);
        move.area(1, 0, 1, 0, 0);
        move.area(31, 6, 1, 0, 0);
        move.area(30, 9, 1, 0, 0);
        move.area(7, 31, 1, 0, 0);
        CHECK.due("1000 / 11", move.strength(0, 0), 90);
        CHECK.due("1000 / 1007", move.strength(0, 1), 0);
        CHECK.due("1000 / 991", move.strength(0, 2), 1);
        CHECK.due("1000 / 1020", move.strength(0, 3), 0);
    }

    /** I: the greatest and the least that the limits leave. */
    private static void strengthAtItsLimits() {
        MastMove move = new MastMove();
        move.mast(0, 0, 10000, NONE, false, 0);
        move.mast(100, 100, 1, NONE, false, 0);
        move.area(0, 0, 1, 0, 0);
        move.area(100, 100, 1, 0, 0);
        CHECK.due("the greatest", move.strength(0, 0), 1000000);
        CHECK.due("from corner to corner", move.strength(0, 1), 10000000 / 20010);
        CHECK.due("the least", move.strength(1, 0), 0);
        CHECK.due("the least POWER at its place", move.strength(1, 1), 100);
    }

    /** 9: "of one ABROAD for 10 and its number. -2: there are none such." */
    private static void strengthNumbers() {
        MastMove move = new MastMove();
        plainArea(move);
        for (int n : new int[] {-1, MIN, 0, 9, 10, 13, 14, MAX}) {
            CHECK.due("no mast " + n, move.strength(n, 0), -2);
        }
        for (int m = 0; m < 10; m++) {
            move.mast(0, 0, m + 1, NONE, false, 0);
        }
        CHECK.due("mast 9", move.strength(9, 0), 1000);
        CHECK.due("none abroad yet", move.strength(10, 0), -2);
        for (int s = 0; s < 4; s++) {
            move.abroad(0, 0, 50 + s, 0, 0);
            CHECK.due("abroad " + s, move.strength(10 + s, 0), 5000 + 100 * s);
            CHECK.due("the next", move.strength(11 + s, 0), -2);
        }
        for (int a : new int[] {-1, MIN, 1, 15, 16, MAX}) {
            CHECK.due("no area " + a, move.strength(0, a), -2);
            CHECK.due("no area " + a + " for one abroad", move.strength(10, a), -2);
        }
    }

    /** 26: "-2 for others." */
    private static void mastOfOthers() {
        MastMove move = new MastMove();
        move.mast(3, 4, 5, NONE, true, 6);
        move.abroad(1, 1, 1, 1, 1);
        int[] due = {3, 4, 5, NONE, 1, 6, 0, 0};
        for (int what = 0; what <= 7; what++) {
            CHECK.due("mastOf(0, " + what + ")", move.mastOf(0, what), due[what]);
        }
        for (int what : new int[] {-1, MIN, 8, MAX}) {
            CHECK.due("mastOf(0, " + what + ")", move.mastOf(0, what), -2);
        }
        for (int mast : new int[] {-1, MIN, 1, 9, 10, MAX}) {
            CHECK.due("mastOf(" + mast + ", 0)", move.mastOf(mast, 0), -2);
        }
    }

    /** 27: "-2 for others." */
    private static void areaOfOthers() {
        MastMove move = new MastMove();
        move.area(3, 4, 50, 6, 7);
        int[] due = {50, 6, 7, 0, NONE, 0};
        for (int what = 0; what <= 5; what++) {
            CHECK.due("areaOf(0, " + what + ")", move.areaOf(0, what), due[what]);
        }
        for (int what : new int[] {-1, MIN, 6, MAX}) {
            CHECK.due("areaOf(0, " + what + ")", move.areaOf(0, what), -2);
        }
        for (int area : new int[] {-1, MIN, 1, 15, 16, MAX}) {
            CHECK.due("areaOf(" + area + ", 0)", move.areaOf(area, 0), -2);
        }
    }
}
