/** Promises 1, 2 and 28: what a new object has, its terms, and count's other numbers. */
public final class NewObjectTest {
    private static final Check CHECK = new Check("NewObjectTest");

    public static void main(String[] args) {
        everyCount();
        firstTerms();
        termsRefused();
        CHECK.finish();
    }

    private static void everyCount() {
        MastMove move = new MastMove();
        for (int what = 0; what <= 8; what++) {
            CHECK.due("count(" + what + ") of a new object", move.count(what), 0);
        }
        CHECK.due("count(9)", move.count(9), MastMove.NONE);
        CHECK.due("count(10)", move.count(10), 0);
        CHECK.due("count(11)", move.count(11), MastMove.NONE);
        CHECK.due("count(-1)", move.count(-1), MastMove.NONE);
        CHECK.due("count(max)", move.count(Integer.MAX_VALUE), MastMove.NONE);
        CHECK.due("count(min)", move.count(Integer.MIN_VALUE), MastMove.NONE);
        CHECK.due("fault()", move.fault(), MastMove.NONE);
        CHECK.due("go()", move.go(), -9);
        CHECK.due("turn()", move.turn(), 0);
        CHECK.due("blame(0)", move.blame(0), 0);
        CHECK.due("blame(1)", move.blame(1), -2);
        for (int slot = 0; slot < 4; slot++) {
            CHECK.due("tear(" + slot + ")", move.tear(slot), false);
        }
    }

    private static void firstTerms() {
        MastMove move = new MastMove();
        move.mast(0, 0, 10, MastMove.NONE, false, 0);
        move.mast(0, 0, 1, MastMove.NONE, false, 0);
        move.area(0, 0, 7, 0, 0);
        move.aim(0, 0);
        CHECK.due("picture at LEAST 1000, not above RATIO 10", move.picture(0), 0);
        move.terms(1001, 10);
        CHECK.due("picture below LEAST", move.picture(0), 1);
        move.terms(1000, 11);
        CHECK.due("picture above RATIO", move.picture(0), 3);
    }

    private static void termsRefused() {
        MastMove move = new MastMove();
        move.mast(0, 0, 1, MastMove.NONE, false, 0);
        move.area(0, 0, 7, 0, 0);
        move.aim(0, 0);
        CHECK.due("terms(100, 100)", move.terms(100, 100), 0);
        CHECK.due("terms(0, 1)", move.terms(0, 1), -2);
        CHECK.due("terms(1000001, 1)", move.terms(1000001, 1), -2);
        CHECK.due("terms(1000, 0)", move.terms(1000, 0), -2);
        CHECK.due("terms(1000, 101)", move.terms(1000, 101), -2);
        CHECK.due("terms(-5, -5)", move.terms(-5, -5), -2);
        CHECK.due("picture after refused terms", move.picture(0), 0);
        CHECK.due("terms(1000000, 1)", move.terms(1000000, 1), 0);
        CHECK.due("picture", move.picture(0), 1);
        CHECK.due("terms(1, 1)", move.terms(1, 1), 0);
        CHECK.due("picture", move.picture(0), 0);
    }
}
