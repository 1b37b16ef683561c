/** Promises 18 and 19: boxes come, are given by the law, and weeks go by. */
public final class WeeksTest {
    private static final Check CHECK = new Check("WeeksTest");
    private static final int NONE = MastMove.NONE;

    public static void main(String[] args) {
        deliveries();
        allWeeks();
        mastsBecomeNew();
        values();
        boxesAsTheyAre();
        firstGiveThatHolds();
        limits();
        stockAsItIsThen();
        CHECK.finish();
    }

    private static void deliveries() {
        MastMove move = new MastMove();
        CHECK.due("deliver(-1)", move.deliver(-1), -2);
        CHECK.due("deliver(1000001)", move.deliver(1000001), -2);
        CHECK.due("deliver(max)", move.deliver(Integer.MAX_VALUE), -2);
        CHECK.due("deliver(0)", move.deliver(0), 0);
        for (int n = 1; n <= 9; n++) {
            CHECK.due("deliver", move.deliver(1000000), n * 1000000);
        }
        CHECK.due("deliver(1)", move.deliver(1), 9000001);
        CHECK.due("too many in all", move.deliver(1000000), -2);
        CHECK.due("count(4)", move.count(4), 9000001);
        CHECK.due("up to the most", move.deliver(999999), 10000000);
        CHECK.due("one more", move.deliver(1), -2);
        CHECK.due("none more", move.deliver(0), 10000000);
    }

    private static MastMove ready(int... homes) {
        MastMove move = new MastMove();
        move.mast(0, 0, 100, NONE, false, 0);
        for (int h : homes) {
            move.area(0, 0, h, Math.min(h, 7), Math.min(h, 3));
        }
        move.plan(1, 0L);
        move.channels();
        move.deliver(1000);
        return move;
    }

    private static void allWeeks() {
        MastMove move = ready(1);
        for (int week = 1; week <= 52; week++) {
            CHECK.due("go()", move.go(), week);
            CHECK.due("count(0)", move.count(0), week);
        }
        CHECK.due("52 have gone", move.go(), -9);
        CHECK.due("count(0)", move.count(0), 52);
        MastMove without = new MastMove();
        without.mast(0, 0, 1, NONE, false, 0);
        CHECK.due("no plan", without.go(), -9);
        without.plan(1, 0L);
        CHECK.due("no channels", without.go(), -9);
        CHECK.due("count(0)", without.count(0), 0);
    }

    private static void mastsBecomeNew() {
        MastMove move = new MastMove();
        for (int m = 0; m < 3; m++) {
            move.mast(0, 0, 100, NONE, m == 1, 9);
        }
        move.plan(1, 3L);
        move.channels();
        int[] weeks = {0, 2, 1};
        for (int week = 0; week <= 3; week++) {
            for (int m = 0; m < 3; m++) {
                CHECK.due("mastOf(" + m + ", 6) in week " + week, move.mastOf(m, 6), weeks[m] < week ? 1 : 0);
                CHECK.due("the old channel", move.mastOf(m, 5), 9);
            }
            move.go();
        }
    }

    /** What a sum gives, as boxes of an area with many homes; it must be from 0 to 1000. */
    private static void gives(String sum, int due) {
        MastMove move = ready(5000);
        CHECK.due("law give " + sum, Check.law(move, "give " + sum), 1);
        move.go();
        CHECK.due("give " + sum, move.areaOf(0, 3), due);
        CHECK.due("stock behind it", move.count(4), 1000 - due);
    }

    private static void values() {
        gives("12", 12);
        gives("homes/100", 50);
        gives("poor", 7);
        gives("aged", 3);
        gives("boxes+1", 1);
        gives("week+2", 2);
        gives("stock-1", 999);
        gives("2+3*4", 14);
        gives("(2+3)*4", 20);
        gives("20-5-3", 12);
        gives("100/5/2", 10);
        gives("100/(5/2)", 50);
        gives("2*3/4*5", 5);
        gives("7/2", 3);
        gives("0-(0-7)/2", 3);
        gives("10+(0-7)/2", 7);
        gives("5/0", 0);
        gives("9+5/(1-1)", 9);
        gives("0-5", 0);
        gives("999999", 1000);
        valuesGoAround();
    }

    private static void valuesGoAround() {
        String big = "(65536*65536*65536*16384)"; // 2 to the 62nd
        String least = "(" + big + "*2)";
        gives(big + "/" + big, 1);
        gives(big + "*4+8", 8);
        gives(least, 0);
        gives(least + "-1", 1000);
        gives("(" + least + "-1)/" + big, 1);
        gives("9+" + least + "/" + big, 7);
        gives("9+" + least + "/(0-1)/" + big, 7);
        gives("9+(" + least + "+1)/(0-1)/" + big, 10);
        gives("0-" + least + "/" + big, 2);
        String deep = "1+1*(".repeat(8) + "1+1*9" + ")".repeat(8);
        gives(deep, 17 + 1);
        gives("5 if 18=" + deep + " and 19>" + deep + " and " + deep + "<19", 5);
        gives("1 if " + least + "<0 and " + big + ">0 and " + big + "*4=0", 1);
    }

    private static void boxesAsTheyAre() {
        MastMove move = ready(100);
        Check.law(move, "give boxes+3 if boxes<9");
        int[] due = {3, 9, 9};
        for (int week = 0; week < 3; week++) {
            move.go();
            CHECK.due("boxes behind week " + week, move.areaOf(0, 3), due[week]);
        }
        Check.law(move, "give week*10-boxes");
        move.go();
        CHECK.due("boxes behind week 3", move.areaOf(0, 3), 9 + 21);
    }

    private static void firstGiveThatHolds() {
        MastMove move = ready(10, 20, 30, 40);
        Check.law(move, "give 1 if homes<20;give 2 if homes=20;give 3 if homes>30 and poor>7;"
            + "give 4 if homes>30 and poor=7 and week=0;give 5 if homes=40");
        move.go();
        int[] first = {1, 2, 0, 4};
        for (int a = 0; a < 4; a++) {
            CHECK.due("first week, area " + a, move.areaOf(a, 3), first[a]);
        }
        move.go();
        int[] second = {2, 4, 0, 9};
        for (int a = 0; a < 4; a++) {
            CHECK.due("second week, area " + a, move.areaOf(a, 3), second[a]);
        }
        Check.law(move, "give 0-9 if homes=10;give 5");
        move.go();
        CHECK.due("the first that holds gives less than nothing", move.areaOf(0, 3), 2);
        CHECK.due("another one", move.areaOf(1, 3), 9);
    }

    private static void limits() {
        MastMove move = ready(10, 2000, 50);
        Check.law(move, "give 300;cap 500;cap 305;cap 400");
        move.go();
        CHECK.due("no more than homes", move.areaOf(0, 3), 10);
        CHECK.due("no more than is left to the least cap", move.areaOf(1, 3), 295);
        CHECK.due("nothing is left", move.areaOf(2, 3), 0);
        move.go();
        CHECK.due("all homes have one", move.areaOf(0, 3), 10);
        CHECK.due("the cap is the week's", move.areaOf(1, 3), 595);
        CHECK.due("a rest", move.areaOf(2, 3), 5);
        CHECK.due("stock", move.count(4), 390);
        Check.law(move, "give 999999");
        move.go();
        CHECK.due("no more than the stock", move.areaOf(1, 3), 985);
        CHECK.due("no stock is left", move.areaOf(2, 3), 5);
        CHECK.due("stock", move.count(4), 0);
        move.deliver(1000);
        Check.law(move, "cap 0;give 9");
        move.go();
        CHECK.due("a cap of none", move.count(4), 1000);
    }

    private static void stockAsItIsThen() {
        MastMove move = ready(1000, 1000, 1000);
        Check.law(move, "give stock/2+boxes");
        move.go();
        CHECK.due("half", move.areaOf(0, 3), 500);
        CHECK.due("half of that", move.areaOf(1, 3), 250);
        CHECK.due("half of that", move.areaOf(2, 3), 125);
        CHECK.due("stock", move.count(4), 125);
    }
}
