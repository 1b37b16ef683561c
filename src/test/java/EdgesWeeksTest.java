/**
 * The boundary cases of how a WEEK goes by and what a LAW's values are (Terms V), and of promises 18
 * and 19: each sentence that names one has a method here, with the sentence above it.
 */
public final class EdgesWeeksTest {
    private static final Check CHECK = new Check("EdgesWeeksTest");
    private static final int NONE = MastMove.NONE;
    private static final int MIN = Integer.MIN_VALUE;
    private static final int MAX = Integer.MAX_VALUE;

    public static void main(String[] args) {
        deliverWithinItsLimits();
        deliverAtMostInAll();
        stockMayBeFilledAnew();
        goBehind52();
        goWithoutPlan();
        goWithoutChannels();
        weekIsOneMore();
        mastsOfTheLastWeek();
        areaByArea();
        firstGiveWhoseCondsHold();
        noGiveHolds();
        everyCondMustHold();
        comparisonsAtTheirEdge();
        atLeastNone();
        atMostTheHomesWithoutABox();
        atMostTheStock();
        atMostWhatIsLeftToTheCap();
        leastOfAllCaps();
        withoutACap();
        capOfNone();
        factsOfTheArea();
        weekOfTheLaw();
        stockAsItIsThen();
        valuesGoAround();
        quotientIsCut();
        byZero();
        leastOneByMinusOne();
        deepSums();
        CHECK.finish();
    }

    private static MastMove ready(int boxes, int... homes) {
        MastMove move = new MastMove();
        move.mast(0, 0, 100, NONE, false, 0);
        for (int h : homes) {
            move.area(0, 0, h, h / 2, h / 4);
        }
        move.plan(1, 0L);
        move.channels();
        move.deliver(boxes);
        return move;
    }

    private static void boxesAre(MastMove move, int... due) {
        for (int a = 0; a < due.length; a++) {
            CHECK.due("boxes of area " + a, move.areaOf(a, 3), due[a]);
        }
    }

    /** What a law gives to an area of 100000 homes from a stock of 1000000. */
    private static void gives(String law, int due) {
        MastMove move = ready(1000000, 100000);
        CHECK.due("rules of give " + law, Check.law(move, "give " + law), 1);
        move.go();
        CHECK.due("give " + law, move.areaOf(0, 3), due);
        CHECK.due("stock behind give " + law, move.count(4), 1000000 - due);
    }

    /** 18: "So many boxes (0 .. 1000000)", "-2: another number". */
    private static void deliverWithinItsLimits() {
        MastMove move = new MastMove();
        for (int boxes : new int[] {-1, MIN, 1000001, MAX}) {
            CHECK.due("deliver(" + boxes + ")", move.deliver(boxes), -2);
            CHECK.due("count(4)", move.count(4), 0);
        }
        CHECK.due("deliver(0)", move.deliver(0), 0);
        CHECK.due("deliver(1000000)", move.deliver(1000000), 1000000);
        CHECK.due("deliver(1)", move.deliver(1), 1000001);
    }

    /** 18: "10000000 at most in all", "-2: .. or more." */
    private static void deliverAtMostInAll() {
        MastMove move = new MastMove();
        for (int n = 1; n <= 9; n++) {
            move.deliver(1000000);
        }
        move.deliver(1);
        CHECK.due("one more than all", move.deliver(1000000), -2);
        CHECK.due("count(4)", move.count(4), 9000001);
        CHECK.due("all", move.deliver(999999), 10000000);
        CHECK.due("one more", move.deliver(1), -2);
        CHECK.due("count(4)", move.count(4), 10000000);
        CHECK.due("none more", move.deliver(0), 10000000);
    }

    /** 18: "how many are there": what was given is there no more. */
    private static void stockMayBeFilledAnew() {
        MastMove move = ready(1000000, 100000);
        for (int n = 1; n <= 9; n++) {
            move.deliver(1000000);
        }
        Check.law(move, "give 100000");
        move.go();
        CHECK.due("count(4)", move.count(4), 9900000);
        CHECK.due("one more than all", move.deliver(100001), -2);
        CHECK.due("all", move.deliver(100000), 10000000);
    }

    /** 19: "-9: 52 have gone". */
    private static void goBehind52() {
        MastMove move = ready(1000, 1000);
        Check.law(move, "give 1");
        for (int week = 1; week <= 52; week++) {
            CHECK.due("go()", move.go(), week);
        }
        boxesAre(move, 52);
        String before = Check.seen(move);
        CHECK.due("52 have gone", move.go(), -9);
        CHECK.same("a 53rd", before, move);
        CHECK.due("count(0)", move.count(0), 52);
    }

    /** 19: "or there is no plan". */
    private static void goWithoutPlan() {
        MastMove move = new MastMove();
        CHECK.due("a new object", move.go(), -9);
        move.mast(0, 0, 1, NONE, true, 0);
        move.area(0, 0, 9, 0, 0);
        move.deliver(9);
        Check.law(move, "give 1");
        String before = Check.seen(move);
        CHECK.due("no plan", move.go(), -9);
        CHECK.same("go() without a plan", before, move);
        move.plan(1, 0L);
        move.channels();
        move.plan(1, -1L);
        CHECK.due("none any more", move.go(), -9);
        CHECK.due("count(0)", move.count(0), 0);
    }

    /** 19: "or there are no channels." */
    private static void goWithoutChannels() {
        MastMove move = new MastMove();
        move.mast(0, 0, 1, NONE, false, 0);
        move.area(0, 0, 9, 0, 0);
        move.plan(1, 0L);
        move.deliver(9);
        Check.law(move, "give 1");
        String before = Check.seen(move);
        CHECK.due("no channels", move.go(), -9);
        CHECK.same("go() without channels", before, move);
        move.channels();
        CHECK.due("now", move.go(), 1);
        boxesAre(move, 1);
    }

    /** V: "Then the WEEK is one more"; 19: "the new one". */
    private static void weekIsOneMore() {
        MastMove move = ready(0);
        CHECK.due("count(0)", move.count(0), 0);
        CHECK.due("go()", move.go(), 1);
        CHECK.due("count(0)", move.count(0), 1);
    }

    /** I: "WEEKS 0 to 51"; V: "the MASTS that are planned for this WEEK become NEW". */
    private static void mastsOfTheLastWeek() {
        MastMove move = new MastMove();
        move.mast(0, 0, 100, NONE, true, 3);
        move.mast(0, 0, 100, NONE, true, 4);
        move.plan(1, (1L << 50) - 1);
        move.channels();
        CHECK.due("weekOf(1)", move.weekOf(1), 51);
        for (int week = 1; week <= 50; week++) {
            move.go();
        }
        CHECK.due("mast 0 in week 50", move.mastOf(0, 6), 0);
        move.go();
        CHECK.due("mast 0 behind week 50", move.mastOf(0, 6), 1);
        CHECK.due("mast 1 in week 51", move.mastOf(1, 6), 0);
        CHECK.due("the last", move.go(), 52);
        CHECK.due("mast 1 behind week 51", move.mastOf(1, 6), 1);
    }

    /** V: "first boxes are given, AREA by AREA". */
    private static void areaByArea() {
        MastMove move = ready(25, 10, 10, 10);
        Check.law(move, "give 10");
        move.go();
        boxesAre(move, 10, 10, 5);
        MastMove all = new MastMove();
        all.mast(0, 0, 1, NONE, false, 0);
        for (int a = 0; a < 16; a++) {
            all.area(0, 0, 9, 0, 0);
        }
        all.plan(1, 0L);
        all.channels();
        all.deliver(16);
        Check.law(all, "give 1");
        all.go();
        boxesAre(all, 1, 1, 1, 1, 1, 1, 1, 1, 1, 1, 1, 1, 1, 1, 1, 1);
    }

    /** V: "what the first give of it tells whose CONDS hold". */
    private static void firstGiveWhoseCondsHold() {
        MastMove move = ready(1000, 100);
        Check.law(move, "give 1;give 2");
        move.go();
        boxesAre(move, 1);
        Check.law(move, "give 3 if 1=2;give 4 if 1=1;give 5");
        move.go();
        boxesAre(move, 1 + 4);
        Check.law(move, "cap 50;give 0;give 9");
        move.go();
        boxesAre(move, 5);
    }

    /** V: no give, or none whose CONDS hold. */
    private static void noGiveHolds() {
        MastMove move = ready(1000, 100);
        move.go();
        boxesAre(move, 0);
        Check.law(move, "cap 5");
        move.go();
        boxesAre(move, 0);
        Check.law(move, "give 9 if 1=2;give 8 if 2<1;cap 7");
        move.go();
        boxesAre(move, 0);
        CHECK.due("count(4)", move.count(4), 1000);
    }

    /** V: "[if COND { and COND }]". */
    private static void everyCondMustHold() {
        gives("7 if 1=1 and 2=2 and 3=3", 7);
        gives("7 if 1=2 and 2=2 and 3=3", 0);
        gives("7 if 1=1 and 2=3 and 3=3", 0);
        gives("7 if 1=1 and 2=2 and 3=4", 0);
    }

    /** V: "COND: SUM (< or > or =) SUM". */
    private static void comparisonsAtTheirEdge() {
        gives("1 if 4<5", 1);
        gives("1 if 5<5", 0);
        gives("1 if 6<5", 0);
        gives("1 if 4>5", 0);
        gives("1 if 5>5", 0);
        gives("1 if 6>5", 1);
        gives("1 if 4=5", 0);
        gives("1 if 5=5", 1);
        gives("1 if 6=5", 0);
        gives("1 if 0-1<0", 1);
        gives("1 if 0-1>0", 0);
        // Alike in the lower 32 bits.
        gives("1 if 65536*65536=0", 0);
        gives("1 if 65536*65536>0", 1);
        gives("1 if 65536*32768>0", 1);
    }

    /** V: "at least 0". */
    private static void atLeastNone() {
        gives("0-1", 0);
        gives("1-999999*999999", 0);
        gives("0", 0);
        gives("1", 1);
        MastMove move = ready(1000, 100, 100);
        Check.law(move, "give 60-boxes*2;cap 100");
        move.go();
        boxesAre(move, 60, 40);
        move.go();
        boxesAre(move, 60, 40);
        CHECK.due("none comes back", move.count(4), 900);
    }

    /** V: "at most the homes without a box". */
    private static void atMostTheHomesWithoutABox() {
        MastMove move = ready(1000, 0, 1, 10);
        Check.law(move, "give 7");
        move.go();
        boxesAre(move, 0, 1, 7);
        move.go();
        boxesAre(move, 0, 1, 10);
        move.go();
        boxesAre(move, 0, 1, 10);
        CHECK.due("count(4)", move.count(4), 989);
    }

    /** V: "the STOCK", "that much goes from the STOCK". */
    private static void atMostTheStock() {
        MastMove move = ready(10, 100, 100);
        Check.law(move, "give 11");
        move.go();
        boxesAre(move, 10, 0);
        CHECK.due("count(4)", move.count(4), 0);
        move.go();
        boxesAre(move, 10, 0);
        CHECK.due("deliver", move.deliver(12), 12);
        move.go();
        boxesAre(move, 21, 1);
        CHECK.due("count(4)", move.count(4), 0);
    }

    /** V: "what is left to the LAW's cap", in each WEEK. */
    private static void atMostWhatIsLeftToTheCap() {
        MastMove move = ready(1000, 100, 100, 100);
        Check.law(move, "give 10;cap 15");
        move.go();
        boxesAre(move, 10, 5, 0);
        move.go();
        boxesAre(move, 20, 10, 0);
        Check.law(move, "give 10;cap 20");
        move.go();
        boxesAre(move, 30, 20, 0);
        Check.law(move, "give 10;cap 21");
        move.go();
        boxesAre(move, 40, 30, 1);
    }

    /** V: "(the least number of all caps ..)", wherever they stand. */
    private static void leastOfAllCaps() {
        String[] laws = {"cap 3;cap 9;give 99", "cap 9;give 99;cap 3", "give 99;cap 9;cap 3;cap 5", "give 99;cap 3;cap 3"};
        for (String law : laws) {
            MastMove move = ready(1000, 100);
            Check.law(move, law);
            move.go();
            boxesAre(move, 3);
        }
    }

    /** V: "(.. without one there is none)". */
    private static void withoutACap() {
        MastMove move = new MastMove();
        move.mast(0, 0, 1, NONE, false, 0);
        for (int a = 0; a < 16; a++) {
            move.area(0, 0, 100000, 0, 0);
        }
        move.plan(1, 0L);
        move.channels();
        for (int n = 0; n < 10; n++) {
            move.deliver(1000000);
        }
        Check.law(move, "cap 1;give 5");
        Check.law(move, "give 999999");
        move.go();
        for (int a = 0; a < 16; a++) {
            CHECK.due("boxes of area " + a, move.areaOf(a, 3), 100000);
        }
        CHECK.due("count(4)", move.count(4), 8400000);
    }

    /** V: the least cap that there may be, and the greatest. */
    private static void capOfNone() {
        MastMove none = ready(1000, 100);
        Check.law(none, "give 9;cap 0");
        none.go();
        boxesAre(none, 0);
        MastMove most = new MastMove();
        most.mast(0, 0, 1, NONE, false, 0);
        for (int a = 0; a < 11; a++) {
            most.area(0, 0, 100000, 0, 0);
        }
        most.plan(1, 0L);
        most.channels();
        most.deliver(1000000);
        most.deliver(1000000);
        Check.law(most, "give homes;cap 999999");
        most.go();
        CHECK.due("the tenth has one less", most.areaOf(9, 3), 99999);
        CHECK.due("the eleventh has none", most.areaOf(10, 3), 0);
    }

    /** V: "homes, poor, aged, boxes: the AREA's". */
    private static void factsOfTheArea() {
        String[] words = {"homes", "poor", "aged", "boxes+1"};
        int[][] due = {{40, 80}, {20, 40}, {10, 20}, {1, 1}};
        for (int i = 0; i < words.length; i++) {
            MastMove move = ready(1000, 40, 80);
            Check.law(move, "give " + words[i]);
            move.go();
            boxesAre(move, due[i]);
        }
        MastMove move = ready(1000, 40);
        move.row(0, 0, 1);
        move.poor(0);
        Check.law(move, "give poor+boxes*2+3");
        move.go();
        boxesAre(move, 3);
        move.go();
        boxesAre(move, 12);
    }

    /** V: the boxes are given ahead of the WEEK's being one more. */
    private static void weekOfTheLaw() {
        MastMove move = ready(1000, 10000);
        Check.law(move, "give 1 if week=0;give 5 if week=51");
        for (int week = 0; week < 51; week++) {
            move.go();
            boxesAre(move, 1);
        }
        move.go();
        boxesAre(move, 6);
    }

    /** V: "stock: as it is then". */
    private static void stockAsItIsThen() {
        MastMove move = ready(64, 100, 100, 100);
        Check.law(move, "give stock/2");
        move.go();
        boxesAre(move, 32, 16, 8);
        MastMove none = ready(0, 100);
        Check.law(none, "give 1-stock");
        none.go();
        boxesAre(none, 0);
    }

    private static final String HIGH = "(65536*65536*65536*16384)"; // 2 to the 62nd
    private static final String LEAST = "(" + HIGH + "*2)";

    /** V: "Values have 64 bits and go around". */
    private static void valuesGoAround() {
        gives(HIGH + "*4+7", 7);
        gives(HIGH + "+" + HIGH, 0);
        gives(LEAST + "-1", 100000);
        gives(LEAST + "+" + LEAST + "+3", 3);
        gives("0-" + LEAST, 0);
        gives("1 if " + LEAST + "<0", 1);
        gives("1 if " + LEAST + "-1>0", 1);
        gives("1 if 0-" + LEAST + "=" + LEAST, 1);
        gives("65536*65536", 100000);
        gives("65536*65536/65536", 65536);
    }

    /** V: "/ is cut". */
    private static void quotientIsCut() {
        gives("7/2", 3);
        gives("1/2", 0);
        gives("10+(0-7)/2", 7);
        gives("10+7/(0-2)", 7);
        gives("10+(0-7)/(0-2)", 13);
        gives("10+(0-1)/2", 10);
        gives("7/2*2", 6);
        gives("7*2/2", 7);
    }

    /** V: "by 0 it gives 0". */
    private static void byZero() {
        gives("5/0", 0);
        gives("4+5/0", 4);
        gives("4+0/0", 4);
        gives("4+5/(3-3)*9", 4);
        gives("4+5/boxes", 4);
        gives("4+5/week", 4);
        gives("4+(0-5)/0", 4);
        gives("4 if 1/0=0", 4);
    }

    /** V: "(the least one by -1: itself)". */
    private static void leastOneByMinusOne() {
        gives("1 if " + LEAST + "/(0-1)=" + LEAST, 1);
        gives("1 if (" + LEAST + "+1)/(0-1)=" + LEAST + "-1", 1);
        gives("5/(0-1)+6", 1);
        gives("1 if " + LEAST + "/" + LEAST + "=1", 1);
        gives("1 if 0-" + LEAST + "/(0-1)<0", 1);
    }

    /** V: what is held back where a ( stands within 7 others. */
    private static void deepSums() {
        String deep = "1+1*(".repeat(8) + "1+1*9" + ")".repeat(8);
        gives(deep, 18);
        gives("1 if 18=" + deep, 1);
        gives("1 if 17<" + deep + " and 18=" + deep, 1);
    }
}
