/**
 * The boundary cases of a LAW's text (Terms V) and of promises 14 to 17: each sentence that names
 * one has a method here, with the sentence above it.
 */
public final class EdgesLawTest {
    private static final Check CHECK = new Check("EdgesLawTest");
    private static final int NONE = MastMove.NONE;
    private static final int MIN = Integer.MIN_VALUE;
    private static final int MAX = Integer.MAX_VALUE;

    public static void main(String[] args) {
        tapeOf300();
        noneCome();
        highestByteFirst();
        everyByte();
        firstBytesAlone();
        endBeyond();
        lawEmptiesTheTape();
        faultEmptiesTheTape();
        faultLeavesTheLaw();
        faultOfTheLatest();
        nothingIsALaw();
        blanks();
        everyByteAlone();
        everyByteBehindANumber();
        longestTokens();
        wordsThatAreNone();
        numbersOfAnyDigits();
        numbersAbove();
        tenRules();
        eleventhRule();
        withinEightOthers();
        withinSevenOthers();
        endOfTheText();
        firstOfSeveral();
        rulesNeedTheirParts();
        CHECK.finish();
    }

    private static void holds(String text, int rules) {
        MastMove move = new MastMove();
        CHECK.due("law of " + text, Check.law(move, text), rules);
        CHECK.due("fault of " + text, move.fault(), NONE);
        CHECK.due("count(5) of " + text, move.count(5), rules);
    }

    private static void fails(String text, int place) {
        MastMove move = new MastMove();
        CHECK.due("law of " + text, Check.law(move, text), -4);
        CHECK.due("fault of " + text, move.fault(), place);
        CHECK.due("count(5) of " + text, move.count(5), 0);
    }

    /** A mast, an area of many homes and many boxes, so that a week tells what a law gives. */
    private static MastMove ready() {
        MastMove move = new MastMove();
        move.mast(0, 0, 100, NONE, false, 0);
        move.area(0, 0, 100000, 0, 0);
        move.plan(1, 0L);
        move.channels();
        move.deliver(1000000);
        return move;
    }

    private static int given(MastMove move) {
        int before = move.areaOf(0, 3);
        move.go();
        return move.areaOf(0, 3) - before;
    }

    /** 14: "Twenty bytes come behind the TAPE ..: how many it has". */
    private static void tapeOf300() {
        MastMove move = new MastMove();
        for (int n = 20; n <= 300; n += 20) {
            CHECK.due("feed", move.feed(-1, MIN, 0, MAX, 1), n);
            CHECK.due("count(6)", move.count(6), n);
        }
    }

    /** 14: "NONE, and none come, if it would have more than 300." */
    private static void noneCome() {
        MastMove move = new MastMove();
        for (int n = 0; n < 15; n++) {
            move.feed(0x20202020, 0x20202020, 0x20202020, 0x20202020, 0x20202020);
        }
        CHECK.due("from 300", move.feed(1, 1, 1, 1, 1), NONE);
        CHECK.due("none came", move.count(6), 300);
        move.end(281);
        CHECK.due("from 281", move.feed(1, 1, 1, 1, 1), NONE);
        CHECK.due("none came", move.count(6), 281);
        CHECK.due("none is seen", move.law(), 0);
        for (int n = 0; n < 14; n++) {
            move.feed(0x20202020, 0x20202020, 0x20202020, 0x20202020, 0x20202020);
        }
        CHECK.due("from 280", move.feed(0x20202020, 0x20202020, 0x20202020, 0x20202020, 0x63617031), 300);
        CHECK.due("all 300 are read", move.law(), 1);
    }

    /** 14: "of each number the highest first". */
    private static void highestByteFirst() {
        MastMove move = new MastMove();
        // "give", " 12 ", "if 3", ">2an", "d 1=" : in this order alone a law, but for its end.
        move.feed(0x67697665, 0x20313220, 0x69662033, 0x3e32616e, 0x6420313d);
        CHECK.due("law", move.law(), -4);
        CHECK.due("its end alone is missing", move.fault(), 20);
        MastMove whole = ready();
        whole.feed(0x67697665, 0x20313220, 0x69662033, 0x3e322020, 0x20202020);
        CHECK.due("law", whole.law(), 1);
        CHECK.due("twelve", given(whole), 12);
    }

    /** 14: every byte comes as it is, those above 127 too, at each of four places in a number. */
    private static void everyByte() {
        for (int b = 128; b < 256; b++) {
            for (int shift = 0; shift <= 24; shift += 8) {
                MastMove move = new MastMove();
                move.feed(0x20202020 & ~(255 << shift) | b << shift, 0x20202020, 0x20202020, 0x20202020, 0x20202020);
                CHECK.due("law with " + b, move.law(), -4);
                CHECK.due("its place", move.fault(), 3 - shift / 8);
            }
        }
    }

    /** 15: "The TAPE has its first n bytes alone: n". */
    private static void firstBytesAlone() {
        MastMove move = ready();
        Check.type(move, "give 123456789");
        CHECK.due("end(7)", move.end(7), 7);
        CHECK.due("count(6)", move.count(6), 7);
        CHECK.due("law", move.law(), 1);
        CHECK.due("twelve", given(move), 12);
        Check.type(move, "give 7 and what is cut");
        move.end(6);
        move.feed(0x30202020, 0x20202020, 0x20202020, 0x20202020, 0x20202020);
        CHECK.due("bytes come behind the cut", move.count(6), 26);
        CHECK.due("law", move.law(), 1);
        CHECK.due("seventy", given(move), 70);
    }

    /** 15: "NONE, and nothing happens, if it has not so many, or n is below 0." */
    private static void endBeyond() {
        MastMove move = new MastMove();
        CHECK.due("end(0) of none", move.end(0), 0);
        CHECK.due("end(1) of none", move.end(1), NONE);
        move.feed(0x63617031, 0x20202020, 0x20202020, 0x20202020, 0x20202020);
        for (int n : new int[] {21, 300, 301, MAX, -1, MIN}) {
            CHECK.due("end(" + n + ")", move.end(n), NONE);
            CHECK.due("count(6)", move.count(6), 20);
        }
        CHECK.due("end(20)", move.end(20), 20);
        CHECK.due("law", move.law(), 1);
        move.feed(0, 0, 0, 0, 0);
        CHECK.due("end(0)", move.end(0), 0);
        CHECK.due("an empty text", move.law(), 0);
    }

    /** 16: "The TAPE (empty then) is the LAW from now on". */
    private static void lawEmptiesTheTape() {
        MastMove move = new MastMove();
        CHECK.due("law", Check.law(move, "cap 1"), 1);
        CHECK.due("count(6)", move.count(6), 0);
        CHECK.due("end(1)", move.end(1), NONE);
        CHECK.due("the empty tape is a law", move.law(), 0);
        CHECK.due("count(5)", move.count(5), 0);
    }

    /** 16: "-4: it has a FAULT (nothing but the TAPE changes)": the TAPE does. */
    private static void faultEmptiesTheTape() {
        MastMove move = new MastMove();
        CHECK.due("law", Check.law(move, "cap"), -4);
        CHECK.due("count(6)", move.count(6), 0);
        CHECK.due("the next text is its own", Check.law(move, "cap 1"), 1);
    }

    /** 16: "(nothing but the TAPE changes)": the LAW does not, however far the text was read. */
    private static void faultLeavesTheLaw() {
        MastMove move = ready();
        Check.law(move, "give 50;cap 30");
        for (String text : new String[] {"#", "give 9;cap 2;", "give 9;give", "cap 1;cap 1;cap 1;cap 1000000"}) {
            CHECK.due("law of " + text, Check.law(move, text), -4);
            CHECK.due("count(5)", move.count(5), 2);
            CHECK.due("given", given(move), 30);
        }
    }

    /** 17: "Of the latest law() ..; NONE without one, and ahead of any." */
    private static void faultOfTheLatest() {
        MastMove move = new MastMove();
        CHECK.due("ahead of any", move.fault(), NONE);
        Check.law(move, "give #");
        CHECK.due("of the latest", move.fault(), 5);
        CHECK.due("asked again", move.fault(), 5);
        Check.type(move, "cap 1");
        CHECK.due("a text that is not yet a law", move.fault(), 5);
        move.law();
        CHECK.due("without one", move.fault(), NONE);
        Check.law(move, "#");
        CHECK.due("the first byte", move.fault(), 0);
        move.law();
        CHECK.due("of an empty text", move.fault(), NONE);
    }

    /** V: "TEXT: nothing". */
    private static void nothingIsALaw() {
        holds("", 0);
        holds(" ", 0);
        holds("\n", 0);
        holds(" ".repeat(150) + "\n".repeat(150), 0);
        MastMove move = ready();
        Check.law(move, "give 5;cap 3");
        CHECK.due("given", given(move), 3);
        CHECK.due("nothing", move.law(), 0);
        CHECK.due("none is given", given(move), 0);
    }

    /** V: "blanks (32, 10) aside". */
    private static void blanks() {
        holds(" give 1", 1);
        holds("\ngive\n1\n;\ncap\n2\n", 2);
        holds("give(1+2)*3if 4<5and 6=6;cap 7", 2);
        fails("gi ve 1", 0);
        fails("cap 1 2", 6);
        for (int b : new int[] {0, 9, 11, 12, 13, 31, 33, 127, 160}) {
            fails("give" + (char) b + "1", 4);
        }
    }

    /** V: "the first TOKEN that is none" or "can't stand there": a text of one byte. */
    private static void everyByteAlone() {
        for (int b = 0; b < 256; b++) {
            if (b == ' ' || b == '\n') {
                holds(String.valueOf((char) b), 0);
            } else {
                fails(String.valueOf((char) b), 0);
            }
        }
    }

    /** V: "words (a .. z), numbers (digits), the signs + - * / ( ) < > = ;". */
    private static void everyByteBehindANumber() {
        for (int b = 0; b < 256; b++) {
            String text = "give 1" + (char) b;
            if (b == ' ' || b == '\n' || b >= '0' && b <= '9') {
                holds(text, 1);
            } else {
                // Behind these the end can't stand; all others can't stand behind a number.
                fails(text, "+-*/;".indexOf(b) >= 0 ? 7 : 6);
            }
        }
        for (String sign : new String[] {"<", ">", "="}) {
            holds("give 1 if 1" + sign + "1", 1);
        }
        for (String sign : new String[] {"+", "-", "*", "/"}) {
            holds("give 1" + sign + "1", 1);
        }
        holds("give(1);give 1", 2);
    }

    /** V: "TOKENS .., the longest that begin there". */
    private static void longestTokens() {
        holds("give1", 1);
        holds("cap1", 1);
        holds("give 1if 2=2and 3=3", 1);
        holds("give homes/2if week<9and poor>aged", 1);
        fails("give1cap", 5);
        fails("givehomes", 0);
        fails("give homesif 1=1", 5);
        fails("give homes2", 10);
        fails("give 1 if 1=1and1=1 and2=2;andx", 27);
        fails("give 1 if 1>=1", 12);
        fails("give 1 if 1==1", 12);
        fails("give 1**2", 7);
        MastMove move = ready();
        Check.law(move, "give 12");
        CHECK.due("twelve is one number", given(move), 12);
    }

    /** V: words that are no TOKEN of a LAW. */
    private static void wordsThatAreNone() {
        for (String word : new String[] {"giv", "gives", "givea", "givez", "live", "ca", "caps", "map", "a", "z", "azgive"}) {
            fails(word + " 1", 0);
        }
        for (String word : new String[] {"home", "homess", "poo", "poorer", "age", "ageds", "box", "boxe", "boxess",
            "wee", "weeks", "stoc", "stocks", "x", "none", "Homes", "homeS", "tomes", "door", "eged", "foxes",
            "meek", "atock", "homesa", "homesz"}) {
            fails("give " + word, 5);
        }
        for (String word : new String[] {"i", "iff", "of", "an", "ands", "end", "or"}) {
            fails("give 1 " + word + " 1=1", 7);
        }
        for (String word : new String[] {"homes", "poor", "aged", "boxes", "week", "stock"}) {
            holds("give " + word, 1);
            fails("cap " + word, 4);
            fails(word, 0);
        }
    }

    /** V: "N: 0 .. 999999 (of any digits)". */
    private static void numbersOfAnyDigits() {
        holds("cap 0", 1);
        holds("cap 999999", 1);
        holds("cap 0999999", 1);
        holds("cap " + "0".repeat(296), 1);
        holds("cap " + "0".repeat(290) + "999999", 1);
        MastMove move = ready();
        Check.law(move, "give " + "0".repeat(290) + "00123");
        CHECK.due("zeros ahead are of no matter", given(move), 123);
        Check.law(move, "give 999999-999990");
        CHECK.due("nine", given(move), 9);
    }

    /** V: "is a number above 999999": its first byte. */
    private static void numbersAbove() {
        fails("cap 1000000", 4);
        fails("cap 0001000000", 4);
        fails("give 1+1000000", 7);
        fails("give 1 if 1000000>1", 10);
        fails("give 1 if 1<1000000", 12);
        // Numbers that would be small if an int or a long went around.
        fails("cap 4294967296", 4);
        fails("cap 4294967297", 4);
        fails("cap 2147483648", 4);
        fails("cap 18446744073709551617", 4);
        fails("cap " + "9".repeat(296), 4);
        fails("cap 1" + "0".repeat(295), 4);
    }

    /** V: "begins an 11th RULE": ten there may be. */
    private static void tenRules() {
        holds("cap 9;".repeat(9) + "cap 9", 10);
        holds("give 1;".repeat(9) + "give 1 if 1=1 and 2=2", 10);
        MastMove move = ready();
        Check.law(move, "cap 900;".repeat(9) + "give 5");
        CHECK.due("the tenth gives", given(move), 5);
        Check.law(move, "give 1 if 1=2;".repeat(9) + "give 6");
        CHECK.due("the tenth gives", given(move), 6);
        Check.law(move, "give 999;" + "cap 9;".repeat(8) + "cap 7");
        CHECK.due("the tenth caps", given(move), 7);
    }

    /** V: "begins an 11th RULE". */
    private static void eleventhRule() {
        fails("cap 9;".repeat(10) + "cap 9", 60);
        fails("cap 9;".repeat(10) + "give 9", 60);
        fails("cap 9;".repeat(10) + " \n cap 9", 63);
        fails("cap 9;".repeat(11) + "#", 60);
        fails("cap 9;".repeat(10), 60);
        fails("cap 9;".repeat(10) + "  ", 62);
    }

    /** V: "or is a ( within 8 others". */
    private static void withinEightOthers() {
        fails("give " + "(".repeat(9) + "1" + ")".repeat(9), 13);
        fails("give " + "(".repeat(8) + "1+(2)" + ")".repeat(8), 15);
        fails("give 1 if " + "(".repeat(9) + "1" + ")".repeat(9) + "=1", 18);
        fails("give 1 if 1=" + "(".repeat(9) + "1" + ")".repeat(9), 20);
        fails("give " + "(".repeat(200), 13);
        fails("give (" + "(1)+".repeat(20) + "(((((((((1", 93);
    }

    /** V: eight of them there may be, and any number beside each other. */
    private static void withinSevenOthers() {
        String eight = "(".repeat(8) + "1" + ")".repeat(8);
        holds("give " + eight, 1);
        holds("give " + eight + "+" + eight + "*" + eight, 1);
        holds("give " + eight + " if " + eight + "=" + eight + " and " + eight + "<" + eight, 1);
        holds("give " + "(1)+".repeat(70) + "(1)", 1);
        holds("give (" + "(1)*".repeat(50) + "(((((((1))))))))", 1);
        MastMove move = ready();
        Check.law(move, "give " + eight + "+" + eight);
        CHECK.due("two", given(move), 2);
    }

    /** V: "the place (its first byte; the end: the length)". */
    private static void endOfTheText() {
        fails("give", 4);
        fails("give ", 5);
        fails("cap\n\n\n", 6);
        fails("give 1+", 7);
        fails("give (1", 7);
        fails("give 1 if", 9);
        fails("give 1 if 1", 11);
        fails("give 1 if 1=", 12);
        fails("give 1 if 1=1 and", 17);
        fails("give 1;", 7);
        fails("give" + " ".repeat(296), 300);
        fails("give 1" + "+1".repeat(146) + " +", 300);
        holds("give 1" + "+1".repeat(147), 1);
    }

    /** V: "the first TOKEN that .." of several. */
    private static void firstOfSeveral() {
        fails("give ; #", 5);
        fails("give # ;", 5);
        fails("give 1 1000000 #", 7);
        fails("give 1000000 #", 5);
        fails("cap 1;cap 1;give );give ((((((((((1", 17);
        fails("# give 1", 0);
    }

    /** V: "RULE: give SUM [if COND { and COND }] | cap N", and its parts. */
    private static void rulesNeedTheirParts() {
        fails(";cap 1", 0);
        fails("cap 1;;cap 1", 6);
        fails("cap -1", 4);
        fails("cap (1)", 4);
        fails("cap 1 if 1=1", 6);
        fails("cap cap", 4);
        fails("give ()", 6);
        fails("give 1)", 6);
        fails("give (1))", 8);
        fails("give +1", 5);
        fails("give (1<2)", 7);
        fails("give 1<2", 6);
        fails("give 1 and 1=1", 7);
        fails("give 1 if 1=1=1", 13);
        fails("give 1 if 1=1 if 1=1", 14);
        fails("give 1 if 1 and 1=1", 12);
        fails("give 1 cap 1", 7);
        fails("if 1=1", 0);
    }
}
