/**
 * The boundary cases of SLOTS (Terms I) and of promises 6 and 28 to 32: each sentence that names one
 * has a method here, with the sentence above it.
 */
public final class EdgesRowsTest {
    private static final Check CHECK = new Check("EdgesRowsTest");
    private static final int NONE = MastMove.NONE;
    private static final int MIN = Integer.MIN_VALUE;
    private static final int MAX = Integer.MAX_VALUE;
    private static final int[] NO_SLOTS = {-1, MIN, 4, MAX};

    public static void main(String[] args) {
        rowOfNoSlot();
        rowOfNoWidth();
        rowOfMoreThan60();
        rowBelowNone();
        rowRefusalsInOrder();
        rowOfNone();
        rowInPlaceOfAnother();
        tearOfNothing();
        tornRowIsGone();
        writeRefused();
        writeIsCut();
        pasteOfNoSlot();
        pasteOfNothing();
        pasteOfUnlikeWidths();
        pasteBeyond();
        pasteBelowNone();
        pasteRefusalsInOrder();
        pasteOfNone();
        pasteOfAll();
        pasteAsTheyWere();
        poorOfNoSlot();
        poorOfNothing();
        poorOfTooFew();
        poorBeyondHomes();
        poorOfAllAreas();
        countOfOthers();
        countOfSlots();
        CHECK.finish();
    }

    /** Five areas of 127 homes, so that poor() shows a slot's first five numbers. */
    private static MastMove land() {
        MastMove move = new MastMove();
        for (int a = 0; a < 5; a++) {
            move.area(0, 0, 127, 0, 0);
        }
        return move;
    }

    private static void fill(MastMove move, int slot, int width, int... numbers) {
        CHECK.due("row", move.row(slot, width, numbers.length), 0);
        for (int i = 0; i < numbers.length; i++) {
            CHECK.due("write", move.write(slot, i, numbers[i]), 0);
        }
    }

    private static void rowIs(String why, MastMove move, int slot, int... due) {
        CHECK.due("poor(" + slot + "), " + why, move.poor(slot), 0);
        for (int i = 0; i < due.length; i++) {
            CHECK.due("number " + i + " of slot " + slot + ", " + why, move.areaOf(i, 1), due[i]);
        }
    }

    /** 29: "-2: there is no such SLOT". */
    private static void rowOfNoSlot() {
        MastMove move = new MastMove();
        for (int slot : NO_SLOTS) {
            CHECK.due("row(" + slot + ", 0, 1)", move.row(slot, 0, 1), -2);
        }
        CHECK.due("count(8)", move.count(8), 0);
        CHECK.due("slot 0", move.row(0, 0, 1), 0);
        CHECK.due("slot 3", move.row(3, 0, 1), 0);
    }

    /** 29: "or WIDTH". */
    private static void rowOfNoWidth() {
        MastMove move = new MastMove();
        for (int width : new int[] {-1, MIN, 4, 8, MAX}) {
            CHECK.due("row(0, " + width + ", 1)", move.row(0, width, 1), -2);
        }
        CHECK.due("count(8)", move.count(8), 0);
        for (int width = 0; width <= 3; width++) {
            CHECK.due("width " + width, move.row(0, width, 1), 0);
        }
    }

    /** I: "at most 60"; 29: "or n is above 60". */
    private static void rowOfMoreThan60() {
        MastMove move = land();
        fill(move, 0, 0, 1, 2, 3, 4, 5);
        CHECK.due("61", move.row(0, 0, 61), -2);
        CHECK.due("the most", move.row(0, 0, MAX), -2);
        rowIs("the row is as it was", move, 0, 1, 2, 3, 4, 5);
        for (int width = 0; width <= 3; width++) {
            CHECK.due("60 of width " + width, move.row(width, width, 60), 0);
            CHECK.due("number 59", move.write(width, 59, 1), 0);
            CHECK.due("number 60", move.write(width, 60, 1), -6);
        }
    }

    /** 29: "-3, and the SLOT stays: n is below 0." */
    private static void rowBelowNone() {
        MastMove move = land();
        CHECK.due("-1 in a slot of nothing", move.row(0, 0, -1), -3);
        CHECK.due("it has nothing still", move.poor(0), -5);
        fill(move, 0, 0, 1, 2, 3, 4, 5);
        CHECK.due("-1", move.row(0, 3, -1), -3);
        CHECK.due("the least", move.row(0, 3, MIN), -3);
        rowIs("the row stays", move, 0, 1, 2, 3, 4, 5);
        CHECK.due("its width stays", move.write(0, 0, 256 + 9), 0);
        rowIs("a byte", move, 0, 9, 2, 3, 4, 5);
    }

    /** 29: of several refusals the one that is told first. */
    private static void rowRefusalsInOrder() {
        MastMove move = new MastMove();
        CHECK.due("no slot, n below 0", move.row(4, 0, -1), -2);
        CHECK.due("no slot, n below 0", move.row(-1, 0, -1), -2);
        CHECK.due("no width, n below 0", move.row(0, 4, -1), -2);
        CHECK.due("no width, n below 0", move.row(0, -1, MIN), -2);
    }

    /** 29: n is 0: a row, and not nothing. */
    private static void rowOfNone() {
        MastMove move = new MastMove();
        CHECK.due("row(0, 0, 0)", move.row(0, 0, 0), 0);
        CHECK.due("count(8)", move.count(8), 1);
        CHECK.due("write", move.write(0, 0, 1), -6);
        CHECK.due("poor of no areas", move.poor(0), 0);
        CHECK.due("paste of none", move.paste(0, 0, 0, 0, 0), 0);
        CHECK.due("paste of one", move.paste(0, 0, 0, 0, 1), -6);
        CHECK.due("tear", move.tear(0), true);
    }

    /** 29: "all 0 (in place of another one)". */
    private static void rowInPlaceOfAnother() {
        MastMove move = land();
        fill(move, 1, 1, 1, 2, 3, 4, 5);
        CHECK.due("anew", move.row(1, 1, 5), 0);
        rowIs("all 0", move, 1, 0, 0, 0, 0, 0);
        fill(move, 1, 1, 1, 2, 3, 4, 5);
        CHECK.due("a short one", move.row(1, 0, 2), 0);
        CHECK.due("number 2 is gone", move.write(1, 2, 1), -6);
        CHECK.due("a long one", move.row(1, 0, 5), 0);
        rowIs("all 0 again", move, 1, 0, 0, 0, 0, 0);
        CHECK.due("count(8)", move.count(8), 1);
        MastMove last = new MastMove();
        for (int a = 0; a < 16; a++) {
            last.area(0, 0, 9, 1, 0);
        }
        last.row(3, 3, 60);
        last.write(3, 15, 7);
        last.row(3, 3, 16);
        CHECK.due("poor", last.poor(3), 0);
        CHECK.due("number 15", last.areaOf(15, 1), 0);
    }

    /** 30: "false, if it had nothing, or there is none such." */
    private static void tearOfNothing() {
        MastMove move = new MastMove();
        for (int slot = 0; slot <= 3; slot++) {
            CHECK.due("tear(" + slot + ")", move.tear(slot), false);
        }
        for (int slot : NO_SLOTS) {
            CHECK.due("tear(" + slot + ")", move.tear(slot), false);
        }
        for (int slot = 0; slot <= 3; slot++) {
            move.row(slot, 0, 1);
        }
        for (int slot : NO_SLOTS) {
            CHECK.due("tear(" + slot + ")", move.tear(slot), false);
        }
        CHECK.due("count(8)", move.count(8), 4);
    }

    /** 30: "The SLOT has nothing: true". */
    private static void tornRowIsGone() {
        MastMove move = land();
        fill(move, 2, 0, 1, 2, 3, 4, 5);
        CHECK.due("tear", move.tear(2), true);
        CHECK.due("poor", move.poor(2), -5);
        CHECK.due("write", move.write(2, 0, 1), -5);
        CHECK.due("count(8)", move.count(8), 0);
        CHECK.due("tear again", move.tear(2), false);
        CHECK.due("a row that can't be", move.row(2, 0, -1), -3);
        CHECK.due("nothing still", move.tear(2), false);
        CHECK.due("row", move.row(2, 0, 5), 0);
        rowIs("nothing of the torn one is left", move, 2, 0, 0, 0, 0, 0);
    }

    /** 31: "-2: there is no such SLOT; -5: it has nothing; -6: there is no such number." */
    private static void writeRefused() {
        MastMove move = land();
        for (int slot : NO_SLOTS) {
            CHECK.due("write(" + slot + ", 0, 1)", move.write(slot, 0, 1), -2);
            CHECK.due("no number, either", move.write(slot, -1, 1), -2);
        }
        CHECK.due("nothing", move.write(0, 0, 1), -5);
        CHECK.due("nothing, and no number", move.write(0, -1, 1), -5);
        CHECK.due("nothing, and no number", move.write(0, 60, 1), -5);
        fill(move, 0, 0, 1, 2, 3, 4, 5);
        for (int i : new int[] {-1, MIN, 5, 59, 60, MAX}) {
            CHECK.due("write(0, " + i + ", 9)", move.write(0, i, 9), -6);
        }
        rowIs("as it was", move, 0, 1, 2, 3, 4, 5);
        CHECK.due("the last", move.write(0, 4, 9), 0);
        CHECK.due("the first", move.write(0, 0, 8), 0);
        rowIs("written", move, 0, 8, 2, 3, 4, 9);
    }

    /** One number of a width as poor() takes it, or -4 where it is below 0 or above 100000. */
    private static void isCut(int width, long v, int due) {
        MastMove move = new MastMove();
        move.area(0, 0, 100000, 1, 0);
        move.row(0, width, 1);
        CHECK.due("write " + v, move.write(0, 0, v), 0);
        CHECK.due("poor of " + v + " in width " + width, move.poor(0), Math.min(due, 0));
        CHECK.due("number of " + v + " in width " + width, move.areaOf(0, 1), due < 0 ? 1 : due);
    }

    /** 31: "v, cut to its WIDTH". */
    private static void writeIsCut() {
        isCut(0, 127, 127);
        isCut(0, 128, -4);
        isCut(0, 255, -4);
        isCut(0, 256, 0);
        isCut(0, -129, 127);
        isCut(0, Long.MIN_VALUE, 0);
        isCut(0, Long.MAX_VALUE, -4);
        isCut(1, 32767, 32767);
        isCut(1, 32768, -4);
        isCut(1, 65535, -4);
        isCut(1, 65536, 0);
        isCut(1, 128, 128);
        isCut(1, -32769, 32767);
        isCut(2, 65536, 65536);
        isCut(2, 1L << 31, -4);
        isCut(2, (1L << 32) - 1, -4);
        isCut(2, 1L << 32, 0);
        isCut(2, (1L << 32) + 100000, 100000);
        isCut(2, Long.MIN_VALUE + 5, 5);
        isCut(3, 100000, 100000);
        isCut(3, 1L << 32, -4);
        isCut(3, Long.MIN_VALUE, -4);
        isCut(3, Long.MAX_VALUE, -4);
    }

    /** 32: "-2: there is no such SLOT". */
    private static void pasteOfNoSlot() {
        MastMove move = new MastMove();
        move.row(0, 0, 5);
        for (int slot : NO_SLOTS) {
            CHECK.due("from " + slot, move.paste(slot, 0, 0, 0, 1), -2);
            CHECK.due("to " + slot, move.paste(0, 0, slot, 0, 1), -2);
            CHECK.due("none to " + slot, move.paste(0, 0, slot, 0, 0), -2);
        }
        CHECK.due("neither", move.paste(-1, 0, 4, 0, 1), -2);
    }

    /** 32: "-5: one has nothing". */
    private static void pasteOfNothing() {
        MastMove move = new MastMove();
        move.row(0, 0, 5);
        CHECK.due("from nothing", move.paste(1, 0, 0, 0, 1), -5);
        CHECK.due("to nothing", move.paste(0, 0, 1, 0, 1), -5);
        CHECK.due("none to nothing", move.paste(0, 0, 1, 0, 0), -5);
        CHECK.due("from nothing to nothing", move.paste(2, 0, 1, 0, 1), -5);
        CHECK.due("to itself", move.paste(2, 0, 2, 0, 1), -5);
    }

    /** 32: "-7: they are not of one WIDTH". */
    private static void pasteOfUnlikeWidths() {
        MastMove move = new MastMove();
        for (int slot = 0; slot <= 3; slot++) {
            move.row(slot, slot, 5);
        }
        for (int slot = 0; slot <= 3; slot++) {
            for (int to = 0; to <= 3; to++) {
                CHECK.due("from width " + slot + " to " + to, move.paste(slot, 0, to, 0, 1), slot == to ? 0 : -7);
            }
        }
        CHECK.due("none of them", move.paste(0, 0, 1, 0, 0), -7);
    }

    /** 32: "-6, and nothing happens: some are beyond their rows". */
    private static void pasteBeyond() {
        MastMove move = land();
        fill(move, 0, 0, 1, 2, 3, 4, 5);
        fill(move, 1, 0, 11, 12, 13, 14, 15, 16);
        int[][] beyond = {
            {0, 0, 6}, {1, 0, 5}, {4, 0, 2}, {5, 0, 1}, {6, 0, 1}, {0, 2, 5}, {0, 6, 1}, {0, 5, 2}, {0, 7, 1},
            {MAX, 0, 1}, {0, MAX, 1}, {0, 0, MAX}, {1, 1, MAX}, {MAX, MAX, MAX}, {MAX, 0, MAX}};
        for (int[] b : beyond) {
            CHECK.due("paste(0, " + b[0] + ", 1, " + b[1] + ", " + b[2] + ")", move.paste(0, b[0], 1, b[1], b[2]), -6);
        }
        rowIs("nothing happened", move, 0, 1, 2, 3, 4, 5);
        rowIs("nothing happened", move, 1, 11, 12, 13, 14, 15);
        CHECK.due("the last of both", move.paste(0, 4, 1, 5, 1), 0);
        CHECK.due("up to both ends", move.paste(0, 3, 1, 4, 2), 0);
        rowIs("put there", move, 1, 11, 12, 13, 14, 4);
    }

    /** 32: "or a place or n is below 0." */
    private static void pasteBelowNone() {
        MastMove move = land();
        fill(move, 0, 0, 1, 2, 3, 4, 5);
        int[][] below = {
            {-1, 0, 1}, {0, -1, 1}, {0, 0, -1}, {-1, 0, 0}, {0, -1, 0}, {-1, -1, -1}, {3, 3, -1}, {5, 5, -1},
            {MIN, 0, 1}, {0, MIN, 1}, {0, 0, MIN}, {MIN, MIN, MIN}, {MIN, 0, MAX}, {MIN, MIN, MAX}};
        for (int[] b : below) {
            CHECK.due("paste(0, " + b[0] + ", 0, " + b[1] + ", " + b[2] + ")", move.paste(0, b[0], 0, b[1], b[2]), -6);
        }
        rowIs("nothing happened", move, 0, 1, 2, 3, 4, 5);
    }

    /** 32: of several refusals the one that is told first. */
    private static void pasteRefusalsInOrder() {
        MastMove move = new MastMove();
        move.row(0, 0, 5);
        move.row(1, 1, 5);
        CHECK.due("-2 ahead of -5", move.paste(2, 0, 4, 0, 1), -2);
        CHECK.due("-2 ahead of -6", move.paste(4, -1, 0, 0, 1), -2);
        CHECK.due("-5 ahead of -6", move.paste(0, -1, 2, 0, 1), -5);
        CHECK.due("-7 ahead of -6", move.paste(0, -1, 1, 0, 1), -7);
        CHECK.due("-7 ahead of -6", move.paste(0, 0, 1, 0, 6), -7);
    }

    /** 32: n is 0. */
    private static void pasteOfNone() {
        MastMove move = land();
        fill(move, 0, 0, 1, 2, 3, 4, 5);
        fill(move, 1, 0, 6, 7, 8, 9, 10);
        CHECK.due("at the beginnings", move.paste(0, 0, 1, 0, 0), 0);
        CHECK.due("at the ends", move.paste(0, 5, 1, 5, 0), 0);
        CHECK.due("behind an end", move.paste(0, 6, 1, 0, 0), -6);
        CHECK.due("behind the other end", move.paste(0, 0, 1, 6, 0), -6);
        rowIs("nothing happened", move, 1, 6, 7, 8, 9, 10);
    }

    /** 32: all of a row of 60. */
    private static void pasteOfAll() {
        MastMove move = new MastMove();
        move.row(0, 3, 60);
        move.row(1, 3, 60);
        move.row(2, 3, 1);
        move.area(0, 0, 100, 1, 0);
        move.write(0, 59, 77);
        CHECK.due("60", move.paste(0, 0, 1, 0, 60), 0);
        CHECK.due("the last of them", move.paste(1, 59, 2, 0, 1), 0);
        CHECK.due("poor", move.poor(2), 0);
        CHECK.due("it", move.areaOf(0, 1), 77);
        CHECK.due("61", move.paste(0, 0, 1, 0, 61), -6);
    }

    /** 32: "another one's (or its own) .., as they were". */
    private static void pasteAsTheyWere() {
        MastMove move = land();
        fill(move, 0, 2, 1, 2, 3, 4, 5);
        CHECK.due("to the right", move.paste(0, 0, 0, 1, 4), 0);
        rowIs("to the right", move, 0, 1, 1, 2, 3, 4);
        fill(move, 0, 2, 1, 2, 3, 4, 5);
        CHECK.due("to the left", move.paste(0, 1, 0, 0, 4), 0);
        rowIs("to the left", move, 0, 2, 3, 4, 5, 5);
        CHECK.due("where they are", move.paste(0, 0, 0, 0, 5), 0);
        rowIs("where they are", move, 0, 2, 3, 4, 5, 5);
        fill(move, 3, 2, 9, 9, 9, 9, 9);
        CHECK.due("to another", move.paste(0, 1, 3, 2, 2), 0);
        rowIs("to another", move, 3, 9, 9, 3, 4, 9);
        rowIs("it has them still", move, 0, 2, 3, 4, 5, 5);
    }

    /** 6: "-2: there is no such SLOT". */
    private static void poorOfNoSlot() {
        MastMove move = land();
        for (int slot : NO_SLOTS) {
            CHECK.due("poor(" + slot + ")", move.poor(slot), -2);
        }
    }

    /** 6: "-5: it has nothing". */
    private static void poorOfNothing() {
        MastMove move = new MastMove();
        for (int slot = 0; slot <= 3; slot++) {
            CHECK.due("poor(" + slot + ")", move.poor(slot), -5);
        }
    }

    /** 6: "-6: its row has fewer numbers than there are AREAS". */
    private static void poorOfTooFew() {
        MastMove move = land();
        fill(move, 0, 0, 1, 2, 3, 4);
        CHECK.due("four for five", move.poor(0), -6);
        fill(move, 0, 0, -1, -1, -1, -1);
        CHECK.due("-6 ahead of -4", move.poor(0), -6);
        CHECK.due("nothing happened", move.areaOf(0, 1), 0);
        fill(move, 0, 0, 1, 2, 3, 4, 5);
        rowIs("five for five", move, 0, 1, 2, 3, 4, 5);
        fill(move, 0, 0, 5, 4, 3, 2, 1, -1);
        rowIs("six for five, the sixth being of no matter", move, 0, 5, 4, 3, 2, 1);
        move.row(1, 0, 0);
        CHECK.due("none for five", move.poor(1), -6);
        MastMove none = new MastMove();
        none.row(1, 0, 0);
        CHECK.due("none for none", none.poor(1), 0);
    }

    /** 6: "-4, and nothing happens: one is not 0 .. homes." */
    private static void poorBeyondHomes() {
        MastMove move = new MastMove();
        move.area(0, 0, 10, 5, 0);
        move.area(0, 0, 0, 0, 0);
        move.area(0, 0, 30, 6, 0);
        int[][] beyond = {{11, 0, 0}, {-1, 0, 0}, {7, 1, 7}, {7, -1, 7}, {7, 0, 31}, {7, 0, -1}, {7, 0, MAX}, {MIN, 0, 7}};
        for (int[] b : beyond) {
            fill(move, 0, 2, b);
            CHECK.due("poor of " + b[0] + " " + b[1] + " " + b[2], move.poor(0), -4);
            CHECK.due("area 0 is as it was", move.areaOf(0, 1), 5);
            CHECK.due("area 2 is as it was", move.areaOf(2, 1), 6);
        }
        fill(move, 0, 2, 10, 0, 30);
        rowIs("all homes", move, 0, 10, 0, 30);
        fill(move, 0, 2, 0, 0, 0);
        rowIs("none", move, 0, 0, 0, 0);
    }

    /** 6: sixteen AREAS. */
    private static void poorOfAllAreas() {
        MastMove move = new MastMove();
        for (int a = 0; a < 16; a++) {
            move.area(0, 0, 100, 0, 0);
        }
        move.row(3, 1, 15);
        CHECK.due("15 for 16", move.poor(3), -6);
        move.row(3, 1, 16);
        for (int i = 0; i < 16; i++) {
            move.write(3, i, 50 + i);
        }
        CHECK.due("16 for 16", move.poor(3), 0);
        for (int a = 0; a < 16; a++) {
            CHECK.due("poor of " + a, move.areaOf(a, 1), 50 + a);
        }
    }

    /** 28: "NONE for others." */
    private static void countOfOthers() {
        MastMove move = land();
        for (int what : new int[] {-1, MIN, 11, 12, MAX}) {
            CHECK.due("count(" + what + ")", move.count(what), NONE);
        }
        CHECK.due("count(0)", move.count(0), 0);
        CHECK.due("count(10) ahead of any channels()", move.count(10), 0);
        CHECK.due("count(9) without a plan", move.count(9), NONE);
    }

    /** 28: "8 SLOTS that have a row". */
    private static void countOfSlots() {
        MastMove move = new MastMove();
        for (int slot = 0; slot <= 3; slot++) {
            CHECK.due("count(8)", move.count(8), slot);
            move.row(slot, 0, slot);
        }
        CHECK.due("all four", move.count(8), 4);
        move.row(2, 3, 60);
        CHECK.due("in place of another one", move.count(8), 4);
        move.tear(0);
        CHECK.due("three", move.count(8), 3);
    }
}
