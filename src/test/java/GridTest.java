import java.util.Arrays;

/**
 * Every call with every mix of arguments at, just within and just beyond their limits, in lands that
 * are empty, half full, full, under way and at their end, beside the model. At last all that can be
 * asked is compared, so that a refused call that changed something is seen too.
 */
public final class GridTest {
    private static final Check CHECK = new Check("GridTest");
    private static final long MIN = Integer.MIN_VALUE;
    private static final long MAX = Integer.MAX_VALUE;
    private static final int LANDS = 6;
    /** An object has 512 calls: a land takes up to 100 of them, what is asked at last some 200. */
    private static final int CALLS = 60;

    private static final long[] PLACES = {-1, 0, 100, 101};
    private static final long[] POWERS = {0, 1, 10000, 10001};
    private static final long[] CHANNELS = {-1, 0, 11, 12};
    private static final long[] MASTS = {MIN, -2, -1, 0, 3, 4, 9, 10, 13, 14, MAX};
    private static final long[] AREAS = {MIN, -1, 0, 4, 5, 15, 16, MAX};
    private static final long[] SLOTS = {MIN, -1, 0, 1, 2, 3, 4, MAX};
    private static final long[] SPOTS = {MIN, -1, 0, 5, 6, 59, 60, 61, MAX};
    private static final long[] FLAGS = {0, 1};

    private MastMove move;
    private Model model;
    private int land;
    private int calls;

    private GridTest(int land) {
        this.land = land;
        begin();
    }

    public static void main(String[] args) {
        for (int land = 0; land < LANDS; land++) {
            new GridTest(land).run();
        }
        CHECK.finish();
    }

    private void run() {
        grid("terms", new long[] {MIN, 0, 1, 1000000, 1000001, MAX}, new long[] {MIN, 0, 1, 100, 101, MAX});
        grid("mast", PLACES, PLACES, POWERS, new long[] {-2, -1, 0, 3, 9, 10}, FLAGS, CHANNELS);
        grid("abroad", PLACES, PLACES, POWERS, CHANNELS, new long[] {-1, 0, 52, 53});
        grid("area", PLACES, PLACES, new long[] {-1, 0, 100000, 100001},
            new long[] {-1, 0, 1, 100000, 100001}, new long[] {-1, 0, 1, 100000, 100001});
        grid("poor", SLOTS);
        grid("aim", AREAS, MASTS);
        grid("turn");
        grid("strength", MASTS, AREAS);
        grid("plan", new long[] {MIN, 0, 1, 2, 3, 4, MAX},
            new long[] {0, 1, -1, (1L << 52) - 1, (1L << 51) - 1, ~(1L << 51), -1L << 52, Long.MIN_VALUE});
        grid("weekOf", MASTS);
        grid("channels");
        grid("channelOf", MASTS);
        grid("feed", new long[] {MIN, 0, -1}, new long[] {0}, new long[] {1, MAX}, new long[] {2}, new long[] {3});
        grid("end", new long[] {MIN, -1, 0, 19, 20, 21, 299, 300, 301, MAX});
        grid("law");
        grid("fault");
        grid("deliver", new long[] {MIN, -1, 0, 1, 1000000, 1000001, MAX});
        grid("go");
        grid("fail", MASTS, FLAGS);
        grid("on", MASTS);
        grid("picture", AREAS);
        grid("snow", AREAS);
        grid("hurt", AREAS);
        grid("blame", new long[] {MIN, -1, 0, 1, 15, 16, 31, 32, 32768, 65535, 65536, MAX});
        grid("mastOf", MASTS, new long[] {MIN, -1, 0, 1, 2, 3, 4, 5, 6, 7, 8, MAX});
        grid("areaOf", AREAS, new long[] {MIN, -1, 0, 1, 2, 3, 4, 5, 6, MAX});
        grid("count", new long[] {MIN, -1, 0, 1, 2, 3, 4, 5, 6, 7, 8, 9, 10, 11, MAX});
        grid("row", SLOTS, new long[] {MIN, -1, 0, 3, 4, MAX}, new long[] {MIN, -1, 0, 1, 60, 61, MAX});
        grid("tear", SLOTS);
        grid("write", SLOTS, SPOTS, new long[] {Long.MIN_VALUE, -1, 0, 127, 128, 1L << 32, Long.MAX_VALUE});
        grid("paste", new long[] {-1, 0, 1, 2, 3, 4}, SPOTS, new long[] {-1, 0, 1, 2, 3, 4}, SPOTS, SPOTS);
        finish();
    }

    /** Calls with the first of each argument's values, the next ones, .. as digits of a number. */
    private void grid(String name, long[]... values) {
        int mixes = 1;
        for (long[] v : values) {
            mixes *= v.length;
        }
        for (int mix = 0; mix < mixes; mix++) {
            long[] arguments = new long[values.length];
            int rest = mix;
            for (int i = 0; i < values.length; i++) {
                arguments[i] = values[i][rest % values[i].length];
                rest /= values[i].length;
            }
            one(name, arguments);
            calls++;
            if (calls == CALLS) {
                finish();
                begin();
            }
        }
    }

    private void one(String name, long... arguments) {
        CHECK.due("land " + land + ": " + name + Arrays.toString(arguments),
            FuzzTest.ask(move, name, arguments), model.call(name, arguments));
    }

    private void finish() {
        for (int what = 0; what <= 10; what++) {
            one("count", what);
        }
        one("fault");
        for (int m = 0; m < 10; m++) {
            for (int what = 3; what <= 7; what++) {
                one("mastOf", m, what);
            }
            one("weekOf", m);
            one("channelOf", m);
        }
        for (int a = 0; a < 16; a++) {
            for (int what = 1; what <= 5; what++) {
                one("areaOf", a, what);
            }
            one("picture", a);
            one("hurt", a);
        }
        for (int slot = 0; slot < 4; slot++) {
            one("poor", slot);
            one("areaOf", 0, 1);
        }
    }

    private void begin() {
        move = new MastMove();
        model = new Model();
        calls = 0;
        if (land == 0) {
            return;
        }
        boolean isFull = land >= 3;
        settle(isFull ? 10 : 4, isFull ? 16 : 5, isFull ? 4 : 2);
        if (land == 1) {
            return;
        }
        one("plan", 2, 5);
        one("channels");
        one("deliver", 1000);
        // "give aged+1;cap 9" and blanks.
        one("feed", 0x67697665, 0x20616765, 0x642b313b, 0x63617020, 0x39202020);
        one("law");
        int weeks = land == 4 ? 2 : land == 5 ? 52 : 0;
        for (int week = 0; week < weeks; week++) {
            one("go");
        }
    }

    private void settle(int masts, int areas, int abroad) {
        for (int m = 0; m < masts; m++) {
            one("mast", 10 * m, 5, 200, m % 3 == 1 ? m - 1 : -1, m % 2, m % 5);
        }
        for (int a = 0; a < areas; a++) {
            one("area", 6 * a, 5, 20 * a, a, 2 * a);
        }
        one("turn");
        for (int s = 0; s < abroad; s++) {
            one("abroad", 20 * s, 9, 100, s, 26 * (s % 3));
        }
        for (int slot = 0; slot < 3; slot++) {
            one("row", slot, slot / 2, slot == 1 ? 60 : 6);
            one("write", slot, 5, 7);
        }
    }
}
