import java.util.ArrayList;
import java.util.Arrays;
import java.util.List;
import java.util.Random;

/** All promises: runs of random calls, of up to 512 each, beside the model. */
public final class FuzzTest {
    private static final String[] FACTS = {"homes", "poor", "aged", "boxes", "week", "stock"};
    private static final String[] SCRAPS = {
        "give", "cap", "if", "and", ";", "(", ")", "+", "-", "*", "/", "<", ">", "=", "999999", "1000000", "x", "#", " ", "\n", "Give", "0"};

    private final Random random;
    private final Check check;
    private final MastMove move = new MastMove();
    private final Model model = new Model();
    private final List<String> calls = new ArrayList<>();
    private final int seed;
    private boolean isWrong;

    private FuzzTest(int seed, Check check) {
        this.seed = seed;
        this.check = check;
        // Small seeds in a row begin alike.
        random = new Random(seed * 0x9E3779B97F4A7C15L);
    }

    public static void main(String[] args) {
        Check check = new Check("FuzzTest");
        int runs = args.length > 0 ? Integer.parseInt(args[0]) : 600;
        for (int seed = 0; seed < runs; seed++) {
            new FuzzTest(seed, check).run();
        }
        check.finish();
    }

    private void run() {
        if (random.nextInt(4) == 0) {
            crowd();
        } else {
            settle();
        }
        int style = random.nextInt(3);
        while (calls.size() < 480 && !isWrong) {
            if (style == 0 && random.nextInt(6) == 0) {
                one("go");
            }
            if (random.nextInt(12) == 0) {
                typeLaw();
            } else {
                anyCall();
            }
        }
        for (int what = 0; what < 11; what++) {
            one("count", what);
        }
    }

    /** Most runs need masts and areas to tell anything. */
    private void settle() {
        int spread = 1 + random.nextInt(100);
        int masts = random.nextInt(11);
        int areas = random.nextInt(17);
        for (int m = 0; m < masts; m++) {
            mast(spread);
        }
        for (int a = 0; a < areas; a++) {
            area(spread);
        }
        for (int s = random.nextInt(5); s > 0; s--) {
            abroad(spread);
        }
        one("turn");
        if (random.nextBoolean()) {
            one("plan", 1 + random.nextInt(3), winds());
            one("channels");
        }
    }

    /** Masts so near to each other that channels are hard to find, and often there are none. */
    private void crowd() {
        one("terms", 1000, 100);
        int masts = 7 + random.nextInt(4);
        int looks = random.nextInt(4);
        for (int m = 0; m < masts; m++) {
            one("mast", random.nextInt(30), random.nextInt(30), 50, -1, random.nextInt(2), random.nextInt(12));
        }
        for (int a = 0; a < 16; a++) {
            one("area", random.nextInt(30), random.nextInt(30), 9, 0, 0);
            if (random.nextInt(4) >= looks) {
                one("aim", a, masts - 1 - random.nextInt(random.nextBoolean() ? masts : 3));
            }
        }
        for (int s = 0; s < 4; s++) {
            one("abroad", random.nextInt(30), random.nextInt(30), 50, random.nextInt(12), random.nextInt(53));
        }
        for (int n = 0; n < 6; n++) {
            one("plan", 1 + random.nextInt(3), winds());
            one("channels");
            one("count", 10);
            one("terms", 1000, 1 + random.nextInt(100));
            one("aim", random.nextInt(16), random.nextInt(masts));
        }
    }

    private int within(int from, int to) {
        int odd = random.nextInt(60);
        if (odd == 0) {
            return from - 1;
        }
        if (odd == 1) {
            return to + 1;
        }
        if (odd == 2 && random.nextInt(4) == 0) {
            return random.nextBoolean() ? Integer.MIN_VALUE : Integer.MAX_VALUE;
        }
        return from + random.nextInt(to - from + 1);
    }

    private int power() {
        return random.nextInt(3) == 0 ? within(1, 10000) : within(1, 200);
    }

    private void mast(int spread) {
        int masts = (int) model.call("count", new long[] {1});
        int feed = random.nextInt(3) == 0 ? within(0, masts) : MastMove.NONE;
        one("mast", within(0, spread), within(0, spread), power(), feed, random.nextInt(2), within(0, 11));
    }

    private void abroad(int spread) {
        one("abroad", within(0, spread), within(0, spread), power(), within(0, 11), within(0, 52));
    }

    private void area(int spread) {
        int homes = random.nextInt(5) == 0 ? within(0, 100000) : within(0, 300);
        int most = Math.min(Math.max(homes, 0), 100000);
        one("area", within(0, spread), within(0, spread), homes, within(0, most), within(0, most));
    }

    private long winds() {
        long winds = random.nextLong();
        for (int n = random.nextInt(4); n > 0; n--) {
            winds = random.nextBoolean() ? winds & random.nextLong() : winds | random.nextLong();
        }
        return random.nextInt(8) == 0 ? -1L << random.nextInt(53) : winds;
    }

    private void typeLaw() {
        StringBuilder text = new StringBuilder();
        int rules = random.nextInt(20) == 0 ? 9 + random.nextInt(4) : random.nextInt(5);
        for (int r = 0; r < rules; r++) {
            text.append(r > 0 ? ";" : "").append(rule());
        }
        for (int n = random.nextInt(3) - 1; n > 0; n--) {
            String scrap = SCRAPS[random.nextInt(SCRAPS.length)];
            int at = random.nextInt(text.length() + 1);
            text.replace(at, Math.min(text.length(), at + random.nextInt(3)), scrap);
        }
        if (text.length() > 300) {
            text.setLength(300);
        }
        one("end", 0);
        byte[] bytes = new byte[(text.length() + 19) / 20 * 20];
        for (int i = 0; i < text.length(); i++) {
            bytes[i] = (byte) text.charAt(i);
        }
        for (int from = 0; from < bytes.length; from += 20) {
            java.nio.ByteBuffer five = java.nio.ByteBuffer.wrap(bytes, from, 20);
            one("feed", five.getInt(), five.getInt(), five.getInt(), five.getInt(), five.getInt());
        }
        one("end", text.length());
        one("law");
        one("fault");
    }

    private String rule() {
        if (random.nextInt(5) == 0) {
            return "cap " + random.nextInt(random.nextBoolean() ? 100 : 1000000);
        }
        StringBuilder text = new StringBuilder("give " + sum(0));
        for (int n = random.nextInt(3); n > 0; n--) {
            text.append(text.indexOf(" if ") < 0 ? " if " : " and ");
            text.append(sum(1)).append("<>=".charAt(random.nextInt(3))).append(sum(1));
        }
        return text.toString();
    }

    private String sum(int depth) {
        StringBuilder text = new StringBuilder(factor(depth));
        for (int n = random.nextInt(3); n > 0; n--) {
            text.append("+-*/".charAt(random.nextInt(4))).append(random.nextInt(4) == 0 ? " " : "").append(factor(depth));
        }
        return text.toString();
    }

    private String factor(int depth) {
        int kind = random.nextInt(8);
        if (kind == 0 && depth < 4) {
            return "(" + sum(depth + 1) + ")";
        }
        if (kind == 1 && random.nextInt(10) == 0) {
            int parens = 7 + random.nextInt(3);
            return "(".repeat(parens) + "1" + ")".repeat(parens);
        }
        if (kind < 4) {
            return FACTS[random.nextInt(FACTS.length)];
        }
        return Integer.toString(kind == 4 ? random.nextInt(1000000) : random.nextInt(9));
    }

    private void anyCall() {
        int mast = within(0, 9);
        int area = within(0, 15);
        int slot = within(0, 3);
        switch (random.nextInt(31)) {
            case 0: one("terms", random.nextBoolean() ? within(1, 1000000) : within(1, 9000), within(1, 100)); break;
            case 1: mast(100); break;
            case 2: abroad(100); break;
            case 3: area(100); break;
            case 4: one("poor", slot); break;
            case 5: one("aim", area, random.nextInt(5) == 0 ? MastMove.NONE : mast); break;
            case 6: one("turn"); break;
            case 7: one("strength", random.nextBoolean() ? mast : within(10, 13), area); break;
            case 8: one("plan", within(1, 3), winds()); break;
            case 9: one("weekOf", mast); break;
            case 10: one("channels"); one("count", 10); break;
            case 11: one("channelOf", mast); break;
            case 12: one("feed", random.nextInt(), random.nextInt(), random.nextInt(), random.nextInt(), random.nextInt()); break;
            case 13: one("end", within(0, 300)); break;
            case 14: one("law"); break;
            case 15: one("fault"); break;
            case 16: one("deliver", random.nextBoolean() ? within(0, 1000000) : within(0, 500)); break;
            case 17: one("fail", mast, random.nextInt(2)); break;
            case 18: one("on", mast); break;
            case 19: one("picture", area); break;
            case 20: one("snow", area); break;
            case 21: one("hurt", area); break;
            case 22: blame(); break;
            case 23: one("mastOf", mast, within(0, 7)); break;
            case 24: one("areaOf", area, within(0, 5)); break;
            case 25: one("count", within(0, 10)); break;
            case 26: one("row", slot, within(0, 3), random.nextBoolean() ? within(0, 60) : within(14, 20)); break;
            case 27: one("tear", slot); break;
            case 28: one("write", slot, within(0, 20), random.nextBoolean() ? random.nextInt(200) : random.nextLong()); break;
            case 29: one("paste", slot, within(0, 20), within(0, 3), within(0, 20), within(0, 8)); break;
            default: one("go"); break;
        }
    }

    /** Sets that leave no mast half blamed would be rare by chance. */
    private void blame() {
        int set = random.nextInt(4) == 0 ? random.nextInt() : 0;
        int masts = random.nextInt(1024);
        for (int a = 0; a < 16; a++) {
            long looksAt = model.call("areaOf", new long[] {a, 4});
            boolean isIn = looksAt >= 0 ? (masts >> looksAt & 1) == 1 : looksAt == MastMove.NONE && random.nextBoolean();
            set |= isIn ? 1 << a : 0;
        }
        one("blame", set);
    }

    private void one(String name, long... values) {
        if (isWrong) {
            return;
        }
        String call = name + Arrays.toString(values);
        calls.add(call);
        long want = model.call(name, values);
        long got = ask(move, name, values);
        if (got != want) {
            isWrong = true;
            System.out.println("seed " + seed + ", call " + calls.size() + ": " + calls);
        }
        check.due(call, got, want);
    }

    /** Calls by name, as the model does. */
    static long ask(MastMove move, String name, long[] v) {
        int a = v.length > 0 ? (int) v[0] : 0;
        int b = v.length > 1 ? (int) v[1] : 0;
        int c = v.length > 2 ? (int) v[2] : 0;
        int d = v.length > 3 ? (int) v[3] : 0;
        int e = v.length > 4 ? (int) v[4] : 0;
        switch (name) {
            case "terms": return move.terms(a, b);
            case "mast": return move.mast(a, b, c, d, e != 0, (int) v[5]);
            case "abroad": return move.abroad(a, b, c, d, e);
            case "area": return move.area(a, b, c, d, e);
            case "poor": return move.poor(a);
            case "aim": return move.aim(a, b);
            case "turn": return move.turn();
            case "strength": return move.strength(a, b);
            case "plan": return move.plan(a, v[1]);
            case "weekOf": return move.weekOf(a);
            case "channels": return move.channels();
            case "channelOf": return move.channelOf(a);
            case "feed": return move.feed(a, b, c, d, e);
            case "end": return move.end(a);
            case "law": return move.law();
            case "fault": return move.fault();
            case "deliver": return move.deliver(a);
            case "go": return move.go();
            case "fail": return move.fail(a, b != 0) ? 1 : 0;
            case "on": return move.on(a);
            case "picture": return move.picture(a);
            case "snow": return move.snow(a);
            case "hurt": return move.hurt(a);
            case "blame": return move.blame(a);
            case "mastOf": return move.mastOf(a, b);
            case "areaOf": return move.areaOf(a, b);
            case "count": return move.count(a);
            case "row": return move.row(a, b, c);
            case "tear": return move.tear(a) ? 1 : 0;
            case "write": return move.write(a, b, v[2]);
            case "paste": return move.paste(a, b, c, d, e);
            default: throw new IllegalStateException(name);
        }
    }
}
