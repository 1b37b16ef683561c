import java.util.ArrayList;
import java.util.Arrays;
import java.util.HashMap;
import java.util.HashSet;
import java.util.List;
import java.util.Map;
import java.util.Set;
import java.util.regex.Matcher;
import java.util.regex.Pattern;

/** The document once more, written for plainness with the whole library, to compare with. */
final class Model {
    private static final int NONE = -1;

    private static final class Sender {
        int x, y, power, feed = NONE, channel, fresh = NONE, week = NONE, until;
        boolean high, isNew, failed;
    }

    private static final class Place {
        int x, y, homes, poor, aged, boxes, mast = NONE, turns;
    }

    private final List<Sender> masts = new ArrayList<>();
    private final List<Sender> abroad = new ArrayList<>();
    private final List<Place> areas = new ArrayList<>();
    private final Object[] slots = new Object[4];
    private final StringBuilder tape = new StringBuilder();
    private List<List<String>> rules = new ArrayList<>();
    private int fault = NONE, stock, week, least = 1000, ratio = 10, weeks = NONE, looked;
    private boolean tuned;

    /** Calls by name, so that a run is written once for both; a boolean is 1 or 0. */
    long call(String name, long[] v) {
        int a = v.length > 0 ? (int) v[0] : 0;
        int b = v.length > 1 ? (int) v[1] : 0;
        int c = v.length > 2 ? (int) v[2] : 0;
        int d = v.length > 3 ? (int) v[3] : 0;
        int e = v.length > 4 ? (int) v[4] : 0;
        switch (name) {
            case "terms": return terms(a, b);
            case "mast": return mast(a, b, c, d, e != 0, (int) v[5]);
            case "abroad": return abroad(a, b, c, d, e);
            case "area": return area(a, b, c, d, e);
            case "poor": return poor(a);
            case "aim": return aim(a, b);
            case "turn": return turn();
            case "strength": return sender(a) == null || b < 0 || b >= areas.size() ? -2 : strength(sender(a), areas.get(b));
            case "plan": return plan(a, v[1]);
            case "weekOf": return isMast(a) ? masts.get(a).week : -2;
            case "channels": return channels();
            case "channelOf": return isMast(a) ? masts.get(a).fresh : -2;
            case "feed": return feed(v);
            case "end": return end(a);
            case "law": return law();
            case "fault": return fault;
            case "deliver": return deliver(a);
            case "go": return go();
            case "fail": return fail(a, b != 0);
            case "on": return isMast(a) ? (isOn(masts.get(a)) ? 1 : 0) : -2;
            case "picture": return isArea(a) ? picture(areas.get(a)) : -2;
            case "snow": return isArea(a) ? snow(areas.get(a)) : -2;
            case "hurt": return isArea(a) ? hurt(areas.get(a)) : NONE;
            case "blame": return blame(a);
            case "mastOf": return mastOf(a, b);
            case "areaOf": return areaOf(a, b);
            case "count": return count(a);
            case "row": return row(a, b, c);
            case "tear": return tear(a);
            case "write": return write(a, b, v[2]);
            case "paste": return paste(a, b, c, d, e);
            default: throw new IllegalStateException(name);
        }
    }

    private boolean isMast(int m) { return m >= 0 && m < masts.size(); }

    private boolean isArea(int a) { return a >= 0 && a < areas.size(); }

    private Sender sender(int n) {
        if (n >= 10 && n - 10 < abroad.size()) return abroad.get(n - 10);
        return isMast(n) ? masts.get(n) : null;
    }

    private int terms(int l, int r) {
        if (l < 1 || l > 1000000 || r < 1 || r > 100) return -2;
        least = l;
        ratio = r;
        return 0;
    }

    private static boolean off(int v, int from, int to) { return v < from || v > to; }

    private int mast(int x, int y, int power, int feed, boolean high, int channel) {
        if (off(x, 0, 100) || off(y, 0, 100) || off(power, 1, 10000) || off(channel, 0, 11)) return -2;
        if (feed != NONE && !isMast(feed)) return -2;
        if (masts.size() == 10) return -3;
        if (weeks != NONE) return -9;
        Sender s = new Sender();
        s.x = x; s.y = y; s.power = power; s.feed = feed; s.high = high; s.channel = channel;
        masts.add(s);
        return masts.size() - 1;
    }

    private int abroad(int x, int y, int power, int channel, int until) {
        if (off(x, 0, 100) || off(y, 0, 100) || off(power, 1, 10000) || off(channel, 0, 11) || off(until, 0, 52)) return -2;
        if (abroad.size() == 4) return -3;
        Sender s = new Sender();
        s.x = x; s.y = y; s.power = power; s.channel = channel; s.until = until;
        abroad.add(s);
        return abroad.size() - 1;
    }

    private int area(int x, int y, int homes, int poor, int aged) {
        if (off(x, 0, 100) || off(y, 0, 100) || off(homes, 0, 100000) || off(poor, 0, homes) || off(aged, 0, homes)) return -2;
        if (areas.size() == 16) return -3;
        Place p = new Place();
        p.x = x; p.y = y; p.homes = homes; p.poor = poor; p.aged = aged;
        areas.add(p);
        return areas.size() - 1;
    }

    private static long number(Object row, int i) {
        if (row instanceof byte[] b) return b[i];
        if (row instanceof short[] s) return s[i];
        if (row instanceof int[] n) return n[i];
        return ((long[]) row)[i];
    }

    private int poor(int slot) {
        if (off(slot, 0, 3)) return -2;
        if (slots[slot] == null) return -5;
        if (java.lang.reflect.Array.getLength(slots[slot]) < areas.size()) return -6;
        for (int i = 0; i < areas.size(); i++) {
            long n = number(slots[slot], i);
            if (n < 0 || n > areas.get(i).homes) return -4;
        }
        for (int i = 0; i < areas.size(); i++) areas.get(i).poor = (int) number(slots[slot], i);
        return 0;
    }

    private int aim(int a, int m) {
        if (!isArea(a) || m != NONE && !isMast(m)) return -2;
        Place p = areas.get(a);
        int old = p.mast;
        if (old != m) p.turns++;
        p.mast = m;
        return old;
    }

    private int turn() {
        int turned = 0;
        for (int a = 0; a < areas.size(); a++) {
            Place p = areas.get(a);
            int best = NONE;
            for (int m = masts.size() - 1; m >= 0; m--) {
                if (best == NONE || strength(masts.get(m), p) >= strength(masts.get(best), p)) best = m;
            }
            if (aim(a, best) != best) turned++;
        }
        return turned;
    }

    private static int strength(Sender s, Place p) {
        long d = (long) (s.x - p.x) * (s.x - p.x) + (long) (s.y - p.y) * (s.y - p.y);
        return (int) (1000L * s.power / (10 + d));
    }

    private boolean hurts(Sender s, Place p) {
        return (long) ratio * strength(s, p) > strength(masts.get(p.mast), p);
    }

    private int plan(int crews, long winds) {
        if (off(crews, 1, 3)) return -2;
        if (week > 0) return -9;
        tuned = false;
        weeks = NONE;
        for (Sender s : masts) {
            s.fresh = NONE;
            s.week = NONE;
        }
        for (int w = 1; w <= 52 && !masts.isEmpty(); w++) {
            if (planned(0, w, 0, crews, winds, new HashSet<>())) {
                weeks = w;
                return w;
            }
        }
        for (Sender s : masts) s.week = NONE;
        return NONE;
    }

    private boolean planned(int w, int end, int done, int crews, long winds, Set<Integer> vain) {
        int all = (1 << masts.size()) - 1;
        if (w == end) return done == all;
        if ((end - w) * crews < Integer.bitCount(all & ~done) || vain.contains(w << 10 | done)) return false;
        next:
        for (int set = 0; set <= all; set++) {
            if ((set & done) != 0 || Integer.bitCount(set) > crews) continue;
            for (int m = 0; m < masts.size(); m++) {
                if ((set >> m & 1) == 0) continue;
                Sender s = masts.get(m);
                if (s.high && (winds >> w & 1) == 1) continue next;
                if (s.feed != NONE && ((set | done) >> s.feed & 1) == 0) continue next;
            }
            if (planned(w + 1, end, done | set, crews, winds, vain)) {
                for (int m = 0; m < masts.size(); m++) if ((set >> m & 1) == 1) masts.get(m).week = w;
                return true;
            }
        }
        vain.add(w << 10 | done);
        return false;
    }

    private boolean near(int a, int b) {
        for (Place p : areas) {
            if (p.mast == b && hurts(masts.get(a), p) || p.mast == a && hurts(masts.get(b), p)) return true;
        }
        return false;
    }

    private boolean nearAbroad(int m, Sender s) {
        for (Place p : areas) if (p.mast == m && hurts(s, p)) return true;
        return false;
    }

    private int channels() {
        if (weeks == NONE || week > 0) return -9;
        tuned = false;
        for (Sender s : masts) s.fresh = NONE;
        looked = 0;
        int found = look(0);
        if (found != 1) {
            for (Sender s : masts) s.fresh = NONE;
            return found == 0 ? NONE : -4;
        }
        tuned = true;
        Set<Integer> unlike = new HashSet<>();
        for (Sender s : masts) unlike.add(s.fresh);
        return unlike.size();
    }

    /** 1 found, 0 not, -1 full. */
    private int look(int m) {
        if (m == masts.size()) return 1;
        for (int c = 0; c < 12; c++) {
            looked++;
            masts.get(m).fresh = c;
            if (goes(m, c)) {
                if (m < masts.size() - 1 && looked == 20000) return -1;
                int rest = look(m + 1);
                if (rest != 0) return rest;
            } else if (looked == 20000) {
                return -1;
            }
        }
        return 0;
    }

    private boolean goes(int m, int c) {
        for (int o = 0; o < masts.size(); o++) {
            if (o == m) continue;
            Sender other = masts.get(o);
            boolean sameNew = o < m && other.fresh == c;
            boolean laterOld = other.week > masts.get(m).week && other.channel == c;
            if ((sameNew || laterOld) && near(o, m)) return false;
        }
        for (Sender s : abroad) {
            if (s.channel == c && s.until > masts.get(m).week && nearAbroad(m, s)) return false;
        }
        return true;
    }

    private int feed(long[] v) {
        if (tape.length() + 20 > 300) return NONE;
        for (long n : v) for (int k = 24; k >= 0; k -= 8) tape.append((char) (n >> k & 255));
        return tape.length();
    }

    private int end(int n) {
        if (n < 0 || n > tape.length()) return NONE;
        tape.setLength(n);
        return n;
    }

    private static final Pattern TOKEN = Pattern.compile("[a-z]+|[0-9]+|[-+*/()<>=;]|[^ \n]", Pattern.DOTALL);
    private static final Set<String> FACTS = Set.of("homes", "poor", "aged", "boxes", "week", "stock");

    /** A machine of states in place of a grammar: what may stand next, and in which part of a rule. */
    private int law() {
        String text = tape.toString();
        tape.setLength(0);
        List<List<String>> read = new ArrayList<>();
        String part = "none";
        boolean operand = false;
        int parens = 0;
        Matcher m = TOKEN.matcher(text);
        boolean any = false;
        while (m.find()) {
            any = true;
            String t = m.group();
            boolean isNumber = t.matches("[0-9]+") && new java.math.BigInteger(t).intValue() <= 999999
                && new java.math.BigInteger(t).bitLength() < 31;
            boolean fits = true;
            if (part.equals("none")) {
                fits = (t.equals("give") || t.equals("cap")) && read.size() < 10;
                part = t;
                operand = true;
                if (fits) read.add(new ArrayList<>());
            } else if (part.equals("cap")) {
                fits = operand ? isNumber : t.equals(";");
                if (!operand) part = "none";
                operand = false;
            } else if (operand) {
                if (t.equals("(")) {
                    fits = parens < 8;
                    parens++;
                } else {
                    fits = isNumber || FACTS.contains(t);
                    operand = false;
                }
            } else if (t.equals(")")) {
                fits = parens > 0;
                parens--;
            } else if ("+-*/".contains(t)) {
                operand = true;
            } else if (parens > 0) {
                fits = false;
            } else if (t.equals(";")) {
                fits = !part.equals("left");
                part = "none";
            } else if ("<>=".contains(t)) {
                fits = part.equals("left");
                part = "right";
                operand = true;
            } else {
                fits = t.equals("if") && part.equals("give") || t.equals("and") && part.equals("right");
                part = "left";
                operand = true;
            }
            if (!fits) {
                fault = m.start();
                return -4;
            }
            if (!t.equals(";")) read.get(read.size() - 1).add(t);
        }
        if (any && (operand || parens > 0 || part.equals("none") || part.equals("left"))) {
            fault = text.length();
            return -4;
        }
        fault = NONE;
        rules = read;
        return rules.size();
    }

    private long value(List<String> tokens, Map<String, Long> facts) {
        // The last + or - outside of parentheses parts a sum; else the last * or /.
        for (String signs : new String[] {"+-", "*/"}) {
            int depth = 0;
            for (int i = tokens.size() - 1; i > 0; i--) {
                String t = tokens.get(i);
                depth += t.equals(")") ? 1 : t.equals("(") ? -1 : 0;
                if (depth == 0 && signs.contains(t)) {
                    long left = value(tokens.subList(0, i), facts);
                    long right = value(tokens.subList(i + 1, tokens.size()), facts);
                    switch (t) {
                        case "+": return left + right;
                        case "-": return left - right;
                        case "*": return left * right;
                        default: return right == 0 ? 0 : left / right;
                    }
                }
            }
        }
        if (tokens.size() > 1) return value(tokens.subList(1, tokens.size() - 1), facts);
        String t = tokens.get(0);
        return facts.containsKey(t) ? facts.get(t) : Long.parseLong(t);
    }

    private boolean holds(List<String> cond, Map<String, Long> facts) {
        for (int i = 0; i < cond.size(); i++) {
            if ("<>=".contains(cond.get(i))) {
                int c = Long.compare(value(cond.subList(0, i), facts), value(cond.subList(i + 1, cond.size()), facts));
                return cond.get(i).equals("<") ? c < 0 : cond.get(i).equals(">") ? c > 0 : c == 0;
            }
        }
        throw new IllegalStateException("no sign");
    }

    private long gift(Map<String, Long> facts) {
        next:
        for (List<String> rule : rules) {
            if (rule.get(0).equals("cap")) continue;
            int at = rule.indexOf("if");
            List<String> sum = rule.subList(1, at < 0 ? rule.size() : at);
            while (at >= 0 && at < rule.size()) {
                int to = at + 1;
                while (to < rule.size() && !rule.get(to).equals("and")) to++;
                if (!holds(rule.subList(at + 1, to), facts)) continue next;
                at = to;
            }
            return value(sum, facts);
        }
        return 0;
    }

    private int deliver(int boxes) {
        if (off(boxes, 0, 1000000) || (long) stock + boxes > 10000000L) return -2;
        return stock += boxes;
    }

    private int go() {
        if (week == 52 || weeks == NONE || !tuned) return -9;
        long cap = Long.MAX_VALUE;
        for (List<String> rule : rules) {
            if (rule.get(0).equals("cap")) cap = Math.min(cap, Long.parseLong(rule.get(1)));
        }
        for (Place p : areas) {
            Map<String, Long> facts = new HashMap<>();
            facts.put("homes", (long) p.homes);
            facts.put("poor", (long) p.poor);
            facts.put("aged", (long) p.aged);
            facts.put("boxes", (long) p.boxes);
            facts.put("week", (long) week);
            facts.put("stock", (long) stock);
            long given = Math.max(0, gift(facts));
            given = Math.min(Math.min(given, p.homes - p.boxes), Math.min(stock, cap));
            p.boxes += (int) given;
            stock -= (int) given;
            cap -= given;
        }
        for (Sender s : masts) s.isNew |= s.week == week;
        return ++week;
    }

    private int fail(int m, boolean is) {
        if (!isMast(m)) return 0;
        boolean was = masts.get(m).failed;
        masts.get(m).failed = is;
        return was != is ? 1 : 0;
    }

    private boolean isOn(Sender s) {
        return !s.failed && (s.feed == NONE || isOn(masts.get(s.feed)));
    }

    private int hurt(Place p) {
        if (p.mast == NONE) return NONE;
        Sender own = masts.get(p.mast);
        int channel = own.isNew ? own.fresh : own.channel;
        for (int n = 0; n < 14; n++) {
            Sender s = sender(n);
            if (s == null || s == own || !hurts(s, p)) continue;
            boolean sends = n < 10 ? isOn(s) : week < s.until;
            if (sends && (s.isNew ? s.fresh : s.channel) == channel) return n;
        }
        return NONE;
    }

    private int picture(Place p) {
        if (p.mast == NONE) return 1;
        Sender own = masts.get(p.mast);
        if (strength(own, p) < least) return 1;
        if (!isOn(own)) return 2;
        if (hurt(p) != NONE) return 3;
        return own.isNew && p.boxes < p.homes ? 4 : 0;
    }

    private int snow(Place p) {
        int[] homes = {0, p.homes, p.homes, p.homes, p.homes - p.boxes};
        return homes[picture(p)];
    }

    /** Tries every set of masts. */
    private int blame(int set) {
        for (int bit = areas.size(); bit < 32; bit++) if ((set >>> bit & 1) == 1) return -2;
        int best = NONE;
        next:
        for (int off = 0; off < 1 << masts.size(); off++) {
            for (int a = 0; a < areas.size(); a++) {
                int m = areas.get(a).mast;
                if (m != NONE && (off >> m & 1) != (set >> a & 1)) continue next;
            }
            if (best == NONE || Integer.bitCount(off) < Integer.bitCount(best)) best = off;
        }
        return best;
    }

    private int mastOf(int m, int what) {
        if (!isMast(m) || off(what, 0, 7)) return -2;
        Sender s = masts.get(m);
        return new int[] {s.x, s.y, s.power, s.feed, s.high ? 1 : 0, s.channel, s.isNew ? 1 : 0, s.failed ? 1 : 0}[what];
    }

    private int areaOf(int a, int what) {
        if (!isArea(a) || off(what, 0, 5)) return -2;
        Place p = areas.get(a);
        return new int[] {p.homes, p.poor, p.aged, p.boxes, p.mast, p.turns}[what];
    }

    private int count(int what) {
        if (off(what, 0, 10)) return NONE;
        int snow = 0;
        for (Place p : areas) snow += snow(p);
        int there = 0;
        for (Object row : slots) there += row == null ? 0 : 1;
        return new int[] {week, masts.size(), abroad.size(), areas.size(), stock, rules.size(),
            tape.length(), snow, there, weeks, looked}[what];
    }

    private int row(int slot, int width, int n) {
        if (off(slot, 0, 3) || off(width, 0, 3) || n > 60) return -2;
        if (n < 0) return -3;
        slots[slot] = width == 0 ? new byte[n] : width == 1 ? new short[n] : width == 2 ? (Object) new int[n] : new long[n];
        return 0;
    }

    private int tear(int slot) {
        if (off(slot, 0, 3) || slots[slot] == null) return 0;
        slots[slot] = null;
        return 1;
    }

    private int write(int slot, int i, long v) {
        if (off(slot, 0, 3)) return -2;
        if (slots[slot] == null) return -5;
        if (off(i, 0, java.lang.reflect.Array.getLength(slots[slot]) - 1)) return -6;
        if (slots[slot] instanceof byte[] b) b[i] = (byte) v;
        if (slots[slot] instanceof short[] s) s[i] = (short) v;
        if (slots[slot] instanceof int[] n) n[i] = (int) v;
        if (slots[slot] instanceof long[] l) l[i] = v;
        return 0;
    }

    private int paste(int slot, int i, int to, int k, int n) {
        if (off(slot, 0, 3) || off(to, 0, 3)) return -2;
        if (slots[slot] == null || slots[to] == null) return -5;
        if (slots[slot].getClass() != slots[to].getClass()) return -7;
        long from = java.lang.reflect.Array.getLength(slots[slot]);
        long into = java.lang.reflect.Array.getLength(slots[to]);
        if (i < 0 || k < 0 || n < 0 || (long) i + n > from || (long) k + n > into) return -6;
        System.arraycopy(slots[slot], i, slots[to], k, n);
        return 0;
    }

    @Override
    public String toString() {
        return Arrays.toString(new int[] {week, masts.size(), areas.size()});
    }
}
