/** Promises 14 to 17: the tape, laws and their faults. */
public final class LawTest {
    private static final Check CHECK = new Check("LawTest");
    private static final int NONE = MastMove.NONE;

    public static void main(String[] args) {
        tape();
        bytesInOrder();
        laws();
        faults();
        faultLeavesLaw();
        manyLaws();
        CHECK.finish();
    }

    private static void tape() {
        MastMove move = new MastMove();
        for (int n = 20; n <= 300; n += 20) {
            CHECK.due("feed", move.feed(0, 0, 0, 0, 0), n);
        }
        CHECK.due("a 16th feed", move.feed(0, 0, 0, 0, 0), NONE);
        CHECK.due("count(6)", move.count(6), 300);
        CHECK.due("end(301)", move.end(301), NONE);
        CHECK.due("end(-1)", move.end(-1), NONE);
        CHECK.due("count(6)", move.count(6), 300);
        CHECK.due("end(300)", move.end(300), 300);
        CHECK.due("end(281)", move.end(281), 281);
        CHECK.due("20 bytes more are too many", move.feed(0, 0, 0, 0, 0), NONE);
        CHECK.due("count(6)", move.count(6), 281);
        CHECK.due("end(280)", move.end(280), 280);
        CHECK.due("20 bytes more", move.feed(0, 0, 0, 0, 0), 300);
        CHECK.due("end(0)", move.end(0), 0);
        CHECK.due("end(1)", move.end(1), NONE);
        CHECK.due("count(6)", move.count(6), 0);
    }

    private static void bytesInOrder() {
        MastMove move = new MastMove();
        // "cap 7;cap 8;" in twelve bytes, then nothing but blanks.
        move.feed(0x63617020, 0x373b6361, 0x7020383b, 0x20202020, 0x20202020);
        move.end(11);
        CHECK.due("law()", move.law(), 2);
        CHECK.due("tape is empty", move.count(6), 0);
        CHECK.due("count(5)", move.count(5), 2);
        move.feed(0x63617020, 0xff202020, 0x20202020, 0x20202020, 0x20202020);
        CHECK.due("a byte above 127", move.law(), -4);
        CHECK.due("fault()", move.fault(), 4);
    }

    private static void holds(String text, int rules) {
        MastMove move = new MastMove();
        CHECK.due("law " + text, Check.law(move, text), rules);
        CHECK.due("fault of " + text, move.fault(), NONE);
        CHECK.due("rules of " + text, move.count(5), rules);
    }

    private static void laws() {
        holds("", 0);
        holds(" \n \n", 0);
        holds("give 1", 1);
        holds("\ngive\n1\n", 1);
        holds("give(1)if(2)<3and 4=5", 1);
        holds("give homes+poor-aged*boxes/week+stock", 1);
        holds("cap 0;cap 999999", 2);
        holds("cap " + "0".repeat(200) + "999999", 1);
        holds("give 1;give 2;give 3;cap 4;cap 5;give 6;give 7;give 8;cap 9;give 10", 10);
        holds("give ((((((((1))))))))+((((((((2))))))))", 1);
        holds("give 1if 1<2and 2>1and 3=3", 1);
        holds("give 1" + "+1".repeat(147), 1);
        holds("give 1 if 1=1" + " and 1=1".repeat(35), 1);
    }

    private static void fails(String text, int place) {
        MastMove move = new MastMove();
        CHECK.due("law " + text, Check.law(move, text), -4);
        CHECK.due("fault of " + text, move.fault(), place);
        CHECK.due("count(6)", move.count(6), 0);
        CHECK.due("count(5)", move.count(5), 0);
    }

    private static void faults() {
        fails("give", 4);
        fails("give  ", 6);
        fails("give 1 ; ", 9);
        fails(";", 0);
        fails("  ;", 2);
        fails("1", 0);
        fails("if", 0);
        fails("give 1;;give 2", 7);
        fails("giv 1", 0);
        fails("gives 1", 0);
        fails("givea 1", 0);
        fails("givez 1", 0);
        fails("zcap 1", 0);
        fails("hive 1", 0);
        fails("give1 2", 6);
        fails("give 1x", 6);
        fails("give week2", 9);
        fails("give -1", 5);
        fails("give 1+", 7);
        fails("give 1+*2", 7);
        fails("give ()", 6);
        fails("give (1", 7);
        fails("give (1;", 7);
        fails("give 1)", 6);
        fails("give (1<2)", 7);
        fails("give 1<2", 6);
        fails("give 1 and 1<2", 7);
        fails("give 1 if 1<2<3", 13);
        fails("give 1 if 1<2 if 1<2", 14);
        fails("give 1 if 1", 11);
        fails("give 1 if 1<", 12);
        fails("give 1 if 1<=2", 12);
        fails("give 1 if and", 10);
        fails("give 1 if 1=1 and", 17);
        fails("give 1 if (1=1)", 12);
        fails("give if", 5);
        fails("give give", 5);
        fails("cap", 3);
        fails("cap (1)", 4);
        fails("cap 1+1", 5);
        fails("cap week", 4);
        fails("cap 1000000", 4);
        fails("cap 1 if 1=1", 6);
        fails("give 00999999+" + "9".repeat(100), 14);
        fails("give 4294967297", 5);
        fails("give 1\t", 6);
        fails("give 1.", 6);
        fails("give #", 5);
        fails("give \u0000", 5);
        fails("GIVE 1", 0);
        fails("give 1;Cap 1", 7);
        fails("give ((((((((1+(2))))))))))", 15);
        fails("give ((((((((1))))))))+(((((((((2)))))))))", 31);
        fails("give 1 if ((((((((1))))))))<(((((((((2)))))))))", 36);
        fails("cap 1;".repeat(10), 60);
        fails("cap 1;".repeat(10) + "  give 1", 62);
        fails("cap 1;".repeat(10) + " ;", 61);
        fails("cap 1;".repeat(9) + "cap 1 cap", 60);
    }

    private static void faultLeavesLaw() {
        MastMove move = new MastMove();
        Check.law(move, "give 5;cap 7");
        CHECK.due("faulty", Check.law(move, "give 9;cap 1;give 3 3"), -4);
        CHECK.due("fault()", move.fault(), 20);
        CHECK.due("count(5)", move.count(5), 2);
        move.mast(0, 0, 100, NONE, false, 0);
        move.area(0, 0, 50, 0, 0);
        move.area(0, 0, 50, 0, 0);
        move.plan(1, 0L);
        move.channels();
        move.deliver(100);
        move.go();
        CHECK.due("the old give", move.areaOf(0, 3), 5);
        CHECK.due("the old cap", move.areaOf(1, 3), 2);
        CHECK.due("a good one", Check.law(move, "give 1"), 1);
        CHECK.due("fault()", move.fault(), NONE);
        CHECK.due("an empty one", move.law(), 0);
        move.go();
        CHECK.due("gives nothing", move.count(4), 93);
    }

    private static void manyLaws() {
        MastMove move = new MastMove();
        move.mast(0, 0, 100, NONE, false, 0);
        move.area(0, 0, 1000, 0, 0);
        move.plan(1, 0L);
        move.channels();
        move.deliver(1000);
        for (int n = 1; n <= 40; n++) {
            CHECK.due("a law with a cap", Check.law(move, "cap 2;give 1" + "+1".repeat(100)), 2);
            move.go();
            CHECK.due("two a week", move.areaOf(0, 3), 2 * n);
        }
        CHECK.due("another with a cap", Check.law(move, "cap 3"), 1);
        CHECK.due("one without", Check.law(move, "give 9;give 8;give 7"), 3);
        move.go();
        CHECK.due("nine", move.areaOf(0, 3), 89);
        CHECK.due("one without", Check.law(move, "give 8"), 1);
        move.go();
        CHECK.due("eight", move.areaOf(0, 3), 97);
    }
}
