/** Counts and prints the calls whose answer is not the one that is due. */
final class Check {
    private final String test;
    private int asked;
    private int wrong;

    Check(String test) {
        this.test = test;
    }

    void due(String call, long got, long want) {
        asked++;
        if (got != want) {
            wrong++;
            System.out.println(test + ": " + call + " answered " + got + ", due is " + want);
        }
    }

    void due(String call, boolean got, boolean want) {
        due(call, got ? 1 : 0, want ? 1 : 0);
    }

    void finish() {
        System.out.println(test + ": " + asked + " answers, " + wrong + " not as due");
        if (wrong > 0 || asked == 0) {
            System.exit(1);
        }
    }

    /** For sentences that say that nothing happens: all that can be asked is as it was. */
    void same(String call, String before, MastMove move) {
        String now = seen(move);
        if (!now.equals(before)) {
            System.out.println(test + ": " + call + " left " + now + ", it was " + before);
        }
        due(call + " changes nothing", now.equals(before), true);
    }

    /** All that can be asked of an object without changing it; some 230 calls for a full land. */
    static String seen(MastMove move) {
        StringBuilder text = new StringBuilder("counts");
        for (int what = 0; what <= 10; what++) {
            text.append(' ').append(move.count(what));
        }
        text.append(" fault ").append(move.fault());
        for (int m = 0; m < move.count(1); m++) {
            text.append("; mast ").append(move.weekOf(m)).append(' ').append(move.channelOf(m));
            for (int what = 0; what <= 7; what++) {
                text.append(' ').append(move.mastOf(m, what));
            }
        }
        for (int a = 0; a < move.count(3); a++) {
            text.append("; area ").append(move.picture(a)).append(' ').append(move.hurt(a));
            for (int what = 0; what <= 5; what++) {
                text.append(' ').append(move.areaOf(a, what));
            }
        }
        return text.toString();
    }

    /** Feeds a text to the tape, which must be empty, and cuts it to the text's length. */
    static void type(MastMove move, String text) {
        int[] five = new int[5];
        for (int from = 0; from < text.length(); from += 20) {
            for (int i = 0; i < 5; i++) {
                five[i] = 0;
                for (int k = 0; k < 4; k++) {
                    int at = from + 4 * i + k;
                    five[i] = five[i] << 8 | (at < text.length() ? text.charAt(at) & 255 : 0);
                }
            }
            move.feed(five[0], five[1], five[2], five[3], five[4]);
        }
        move.end(text.length());
    }

    static int law(MastMove move, String text) {
        type(move, text);
        return move.law();
    }
}
