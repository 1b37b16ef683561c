import java.util.Arrays;

/**
 * A land's masts change their signal, mast by mast.
 *
 * Everything an object needs is made in its constructor and used again, so that no call makes
 * anything. Masts and areas stand ready from the start, and so no reference is ever null.
 */
public final class MastMove {
    public static final int NONE = -1;

    private static final int WRONG = -2;
    private static final int NO_ROOM = -3;
    private static final int BELOW_ZERO = -3;
    private static final int REFUSED = -4;
    private static final int NOTHING_THERE = -5;
    private static final int BEYOND = -6;
    private static final int UNLIKE_WIDTHS = -7;
    private static final int NOT_NOW = -9;

    private static final int WEEKS = 52;
    private static final int MASTS = 10;
    private static final int ABROAD = 4;
    /** Masts abroad are numbered behind those of the land, as strength() and hurt() tell them. */
    private static final int SENDERS = MASTS + ABROAD;
    private static final int AREAS = 16;
    private static final int CHANNELS = 12;
    private static final int MOST_COORDINATE = 100;
    private static final int MOST_POWER = 10000;
    private static final int MOST_HOMES = 100000;
    private static final int MOST_LEAST = 1000000;
    private static final int MOST_RATIO = 100;
    private static final int MOST_CREWS = 3;
    private static final int MOST_DELIVERY = 1000000;
    private static final int MOST_STOCK = 10000000;
    private static final int MOST_LOOKS = 20000;
    private static final int MOST_BYTES = 300;
    private static final int MOST_RULES = 10;
    private static final int MOST_PARENS = 8;
    private static final int MOST_NUMBER = 999999;
    private static final int SLOTS = 4;
    private static final int WIDTHS = 4;
    private static final int MOST_NUMBERS = 60;

    private final Land land;
    private final Planner planner;
    private final Tuner tuner;
    private final Tape tape;
    private final LawReader reader;
    private final Row[] rows;
    private final int[] facts;
    private Law law;
    private int lawFault;
    private int stock;
    private int planWeeks;
    private boolean tuned;

    public MastMove() {
        land = new Land();
        planner = new Planner();
        tuner = new Tuner();
        tape = new Tape();
        reader = new LawReader();
        rows = new Row[SLOTS];
        for (int slot = 0; slot < rows.length; slot++) {
            rows[slot] = new Row();
        }
        facts = new int[Law.FACTS];
        law = new Law();
        lawFault = NONE;
        stock = 0;
        planWeeks = NONE;
        tuned = false;
    }

    public int terms(int least, int ratio) {
        if (!isWithin(least, 1, MOST_LEAST) || !isWithin(ratio, 1, MOST_RATIO)) {
            return WRONG;
        }
        land.least = least;
        land.ratio = ratio;
        return 0;
    }

    public int mast(int x, int y, int power, int feed, boolean high, int channel) {
        if (!isFitSender(x, y, power, channel) || (feed != NONE && !land.isMast(feed))) {
            return WRONG;
        }
        if (land.mastCount >= MASTS) {
            return NO_ROOM;
        }
        if (planWeeks != NONE) {
            return NOT_NOW;
        }
        Mast mast = land.masts[land.mastCount];
        mast.stand(x, y, power, channel);
        mast.feed = feed;
        mast.high = high;
        land.mastCount++;
        return land.mastCount - 1;
    }

    public int abroad(int x, int y, int power, int channel, int until) {
        if (!isFitSender(x, y, power, channel) || !isWithin(until, 0, WEEKS)) {
            return WRONG;
        }
        if (land.abroadCount >= ABROAD) {
            return NO_ROOM;
        }
        Mast mast = land.masts[MASTS + land.abroadCount];
        mast.stand(x, y, power, channel);
        mast.until = until;
        land.abroadCount++;
        return land.abroadCount - 1;
    }

    public int area(int x, int y, int homes, int poor, int aged) {
        if (!isPlace(x, y) || !isWithin(homes, 0, MOST_HOMES)) {
            return WRONG;
        }
        if (!isWithin(poor, 0, homes) || !isWithin(aged, 0, homes)) {
            return WRONG;
        }
        if (land.areaCount >= AREAS) {
            return NO_ROOM;
        }
        Area area = land.areas[land.areaCount];
        area.x = x;
        area.y = y;
        area.homes = homes;
        area.poor = poor;
        area.aged = aged;
        land.areaCount++;
        return land.areaCount - 1;
    }

    public int poor(int slot) {
        if (!isSlot(slot)) {
            return WRONG;
        }
        Row row = rows[slot];
        if (row.isEmpty()) {
            return NOTHING_THERE;
        }
        if (row.size < land.areaCount) {
            return BEYOND;
        }
        for (int a = 0; a < land.areaCount; a++) {
            if (row.numbers[a] < 0 || row.numbers[a] > land.areas[a].homes) {
                return REFUSED;
            }
        }
        for (int a = 0; a < land.areaCount; a++) {
            land.areas[a].poor = (int) row.numbers[a];
        }
        return 0;
    }

    public int aim(int area, int mast) {
        if (!land.isArea(area) || (mast != NONE && !land.isMast(mast))) {
            return WRONG;
        }
        int before = land.areas[area].mast;
        land.areas[area].lookAt(mast);
        return before;
    }

    public int turn() {
        int turned = 0;
        for (int a = 0; a < land.areaCount; a++) {
            if (land.areas[a].lookAt(land.strongestAt(land.areas[a]))) {
                turned++;
            }
        }
        return turned;
    }

    public int strength(int mast, int area) {
        if (!land.isSender(mast) || !land.isArea(area)) {
            return WRONG;
        }
        return land.masts[mast].strengthAt(land.areas[area]);
    }

    public int plan(int crews, long winds) {
        if (!isWithin(crews, 1, MOST_CREWS)) {
            return WRONG;
        }
        if (land.week > 0) {
            return NOT_NOW;
        }
        dropChannels();
        for (int m = 0; m < land.mastCount; m++) {
            land.masts[m].week = NONE;
        }
        planWeeks = planner.schedule(land, crews, winds);
        return planWeeks;
    }

    public int weekOf(int mast) {
        return land.isMast(mast) ? land.masts[mast].week : WRONG;
    }

    public int channels() {
        if (planWeeks == NONE || land.week > 0) {
            return NOT_NOW;
        }
        dropChannels();
        int unlike = tuner.search(land);
        tuned = unlike > 0;
        return unlike;
    }

    public int channelOf(int mast) {
        return land.isMast(mast) ? land.masts[mast].newChannel : WRONG;
    }

    public int feed(int a, int b, int c, int d, int e) {
        if (!tape.hasRoomFor(5)) {
            return NONE;
        }
        tape.append(a);
        tape.append(b);
        tape.append(c);
        tape.append(d);
        tape.append(e);
        return tape.length;
    }

    public int end(int n) {
        if (!isWithin(n, 0, tape.length)) {
            return NONE;
        }
        tape.length = n;
        return n;
    }

    public int law() {
        lawFault = reader.faultOf(tape);
        tape.length = 0;
        if (lawFault != NONE) {
            return REFUSED;
        }
        law = reader.exchange(law);
        return law.rules;
    }

    public int fault() {
        return lawFault;
    }

    public int deliver(int boxes) {
        if (!isWithin(boxes, 0, MOST_DELIVERY) || boxes > MOST_STOCK - stock) {
            return WRONG;
        }
        stock += boxes;
        return stock;
    }

    public int go() {
        if (land.week >= WEEKS || planWeeks == NONE || !tuned) {
            return NOT_NOW;
        }
        giveBoxes();
        for (int m = 0; m < land.mastCount; m++) {
            if (land.masts[m].week == land.week) {
                land.masts[m].isNew = true;
            }
        }
        land.week++;
        return land.week;
    }

    public boolean fail(int mast, boolean is) {
        if (!land.isMast(mast) || land.masts[mast].failed == is) {
            return false;
        }
        land.masts[mast].failed = is;
        return true;
    }

    public int on(int mast) {
        return land.isMast(mast) ? asNumber(land.isOn(mast)) : WRONG;
    }

    public int picture(int area) {
        return land.isArea(area) ? land.pictureOf(land.areas[area]) : WRONG;
    }

    public int snow(int area) {
        return land.isArea(area) ? land.snowOf(land.areas[area]) : WRONG;
    }

    public int hurt(int area) {
        return land.isArea(area) ? land.hurterOf(land.areas[area]) : NONE;
    }

    /** A mast that no area of the set looks at only adds to the number, so there is one answer. */
    public int blame(int areas) {
        if (areas >> land.areaCount != 0) {
            return WRONG;
        }
        int blamed = 0;
        int praised = 0;
        for (int a = 0; a < land.areaCount; a++) {
            int mast = land.areas[a].mast;
            if (mast != NONE && isIn(areas, a)) {
                blamed |= 1 << mast;
            } else if (mast != NONE) {
                praised |= 1 << mast;
            }
        }
        return (blamed & praised) == 0 ? blamed : NONE;
    }

    public int mastOf(int mast, int what) {
        return land.isMast(mast) ? land.masts[mast].fact(what) : WRONG;
    }

    public int areaOf(int area, int what) {
        return land.isArea(area) ? land.areas[area].fact(what) : WRONG;
    }

    public int count(int what) {
        switch (what) {
            case 0: return land.week;
            case 1: return land.mastCount;
            case 2: return land.abroadCount;
            case 3: return land.areaCount;
            case 4: return stock;
            case 5: return law.rules;
            case 6: return tape.length;
            case 7: return land.snowInAll();
            case 8: return rowsThere();
            case 9: return planWeeks;
            case 10: return tuner.looked;
            default: return NONE;
        }
    }

    public int row(int slot, int width, int n) {
        if (!isSlot(slot) || !isWithin(width, 0, WIDTHS - 1) || n > MOST_NUMBERS) {
            return WRONG;
        }
        if (n < 0) {
            return BELOW_ZERO;
        }
        rows[slot].begin(width, n);
        return 0;
    }

    public boolean tear(int slot) {
        if (!isSlot(slot) || rows[slot].isEmpty()) {
            return false;
        }
        rows[slot].size = NONE;
        return true;
    }

    public int write(int slot, int i, long v) {
        if (!isSlot(slot)) {
            return WRONG;
        }
        Row row = rows[slot];
        if (row.isEmpty()) {
            return NOTHING_THERE;
        }
        if (!isWithin(i, 0, row.size - 1)) {
            return BEYOND;
        }
        row.numbers[i] = row.cut(v);
        return 0;
    }

    public int paste(int slot, int i, int to, int k, int n) {
        if (!isSlot(slot) || !isSlot(to)) {
            return WRONG;
        }
        Row source = rows[slot];
        Row target = rows[to];
        if (source.isEmpty() || target.isEmpty()) {
            return NOTHING_THERE;
        }
        if (source.width != target.width) {
            return UNLIKE_WIDTHS;
        }
        if (!source.reaches(i, n) || !target.reaches(k, n)) {
            return BEYOND;
        }
        System.arraycopy(source.numbers, i, target.numbers, k, n);
        return 0;
    }

    private static boolean isWithin(int value, int from, int to) {
        return value >= from && value <= to;
    }

    private static boolean isIn(int set, int number) {
        return (set >> number & 1) != 0;
    }

    private static int asNumber(boolean is) {
        return is ? 1 : 0;
    }

    private static boolean isSlot(int slot) {
        return isWithin(slot, 0, SLOTS - 1);
    }

    private static boolean isPlace(int x, int y) {
        return isWithin(x, 0, MOST_COORDINATE) && isWithin(y, 0, MOST_COORDINATE);
    }

    private static boolean isFitSender(int x, int y, int power, int channel) {
        return isPlace(x, y) && isWithin(power, 1, MOST_POWER) && isWithin(channel, 0, CHANNELS - 1);
    }

    private void dropChannels() {
        tuned = false;
        for (int m = 0; m < land.mastCount; m++) {
            land.masts[m].newChannel = NONE;
        }
    }

    private void giveBoxes() {
        int capLeft = law.cap;
        for (int a = 0; a < land.areaCount; a++) {
            int given = portionOf(land.areas[a], capLeft);
            land.areas[a].boxes += given;
            stock -= given;
            capLeft -= given;
        }
    }

    private int portionOf(Area area, int capLeft) {
        facts[0] = area.homes;
        facts[1] = area.poor;
        facts[2] = area.aged;
        facts[3] = area.boxes;
        facts[4] = land.week;
        facts[5] = stock;
        long told = law.gift(facts);
        int most = Math.min(area.homes - area.boxes, Math.min(stock, capLeft));
        return (int) Math.max(0L, Math.min(told, (long) most));
    }

    private int rowsThere() {
        int there = 0;
        for (int slot = 0; slot < rows.length; slot++) {
            there += asNumber(!rows[slot].isEmpty());
        }
        return there;
    }

    /** A mast of the land, or one abroad: only the former has a feed, a plan and failures. */
    private static final class Mast {
        int x;
        int y;
        int power;
        int feed = NONE;
        boolean high;
        int channel;
        int newChannel = NONE;
        int week = NONE;
        int until;
        boolean isNew;
        boolean failed;

        void stand(int atX, int atY, int withPower, int onChannel) {
            x = atX;
            y = atY;
            power = withPower;
            channel = onChannel;
        }

        int strengthAt(Area area) {
            int dx = x - area.x;
            int dy = y - area.y;
            return 1000 * power / (10 + dx * dx + dy * dy);
        }

        int channelNow() {
            return isNew ? newChannel : channel;
        }

        int fact(int what) {
            switch (what) {
                case 0: return x;
                case 1: return y;
                case 2: return power;
                case 3: return feed;
                case 4: return asNumber(high);
                case 5: return channel;
                case 6: return asNumber(isNew);
                case 7: return asNumber(failed);
                default: return WRONG;
            }
        }
    }

    private static final class Area {
        int x;
        int y;
        int homes;
        int poor;
        int aged;
        int boxes;
        int mast = NONE;
        int turns;

        /** Aerials that look there already do not turn: turn() counts the others alone. */
        boolean lookAt(int other) {
            if (mast == other) {
                return false;
            }
            mast = other;
            turns++;
            return true;
        }

        int fact(int what) {
            switch (what) {
                case 0: return homes;
                case 1: return poor;
                case 2: return aged;
                case 3: return boxes;
                case 4: return mast;
                case 5: return turns;
                default: return WRONG;
            }
        }
    }

    private static final class Land {
        private static final int TOO_WEAK = 1;
        private static final int OFF = 2;
        private static final int HURT = 3;
        private static final int NO_BOXES = 4;

        final Mast[] masts = new Mast[SENDERS];
        final Area[] areas = new Area[AREAS];
        int mastCount;
        int abroadCount;
        int areaCount;
        int week;
        int least = 1000;
        int ratio = 10;

        Land() {
            for (int m = 0; m < SENDERS; m++) {
                masts[m] = new Mast();
            }
            for (int a = 0; a < AREAS; a++) {
                areas[a] = new Area();
            }
        }

        boolean isMast(int number) {
            return number >= 0 && number < mastCount;
        }

        boolean isSender(int number) {
            return isMast(number) || (number >= MASTS && number - MASTS < abroadCount);
        }

        boolean isArea(int number) {
            return number >= 0 && number < areaCount;
        }

        boolean isOn(int number) {
            int at = number;
            // A feed was there before what it feeds, so no chain has more than all masts.
            for (int step = 0; step < MASTS && isMast(at); step++) {
                if (masts[at].failed) {
                    return false;
                }
                at = masts[at].feed;
            }
            return true;
        }

        boolean isSending(int number) {
            return number < MASTS ? isOn(number) : week < masts[number].until;
        }

        int strongestAt(Area area) {
            int best = NONE;
            int bestStrength = NONE;
            for (int m = 0; m < mastCount; m++) {
                int strength = masts[m].strengthAt(area);
                if (strength > bestStrength) {
                    best = m;
                    bestStrength = strength;
                }
            }
            return best;
        }

        /** Channels are of no matter here: what shares one hurts, what is only near might. */
        boolean couldHurt(int number, Area area) {
            if (!isSender(number) || !isMast(area.mast) || number == area.mast) {
                return false;
            }
            return ratio * masts[number].strengthAt(area) > masts[area.mast].strengthAt(area);
        }

        int hurterOf(Area area) {
            if (!isMast(area.mast)) {
                return NONE;
            }
            int channel = masts[area.mast].channelNow();
            for (int s = 0; s < SENDERS; s++) {
                if (couldHurt(s, area) && masts[s].channelNow() == channel && isSending(s)) {
                    return s;
                }
            }
            return NONE;
        }

        int pictureOf(Area area) {
            if (!isMast(area.mast) || masts[area.mast].strengthAt(area) < least) {
                return TOO_WEAK;
            }
            if (!isOn(area.mast)) {
                return OFF;
            }
            if (hurterOf(area) != NONE) {
                return HURT;
            }
            return masts[area.mast].isNew && area.boxes < area.homes ? NO_BOXES : 0;
        }

        int snowOf(Area area) {
            int picture = pictureOf(area);
            if (picture == 0) {
                return 0;
            }
            return picture == NO_BOXES ? area.homes - area.boxes : area.homes;
        }

        int snowInAll() {
            int homes = 0;
            for (int a = 0; a < areaCount; a++) {
                homes += snowOf(areas[a]);
            }
            return homes;
        }
    }

    /**
     * Finds the plan over sets of masts that are NEW already. A week has a turn for each crew, and
     * the turns of all weeks follow each other; since a mast may become NEW in the week of its
     * feed, every plan is a row of masts, each behind its feed, that take turns one by one.
     */
    private static final class Planner {
        private static final int SETS = 1 << MASTS;
        private static final int LAST_TURN = WEEKS * MOST_CREWS;

        /** How many turns must have gone for a set to be NEW. */
        private final int[] soonest = new int[SETS];
        /** How many turns may have gone at most when a set is NEW and the others are still due. */
        private final int[] latest = new int[SETS];
        private final int[] calmFrom = new int[WEEKS + 1];
        private final int[] calmUpTo = new int[WEEKS];
        private int crews = 1;

        /** Answers the number of weeks and leaves each mast its week, or answers NONE. */
        int schedule(Land land, int ofCrews, long winds) {
            if (land.mastCount == 0 || ofCrews < 1) {
                return NONE;
            }
            crews = ofCrews;
            findCalm(winds);
            findSoonest(land);
            int turns = soonest[allOf(land)];
            if (turns > WEEKS * crews) {
                return NONE;
            }
            int weeks = (turns - 1) / crews + 1;
            findLatest(land, weeks);
            pickSets(land, weeks, winds);
            return weeks;
        }

        private static int allOf(Land land) {
            return (1 << land.mastCount) - 1;
        }

        private static boolean isWindy(long winds, int week) {
            return (winds >> week & 1L) != 0;
        }

        private void findCalm(long winds) {
            calmFrom[WEEKS] = WEEKS;
            for (int w = WEEKS - 1; w >= 0; w--) {
                calmFrom[w] = isWindy(winds, w) ? calmFrom[w + 1] : w;
            }
            int calm = NONE;
            for (int w = 0; w < WEEKS; w++) {
                calm = isWindy(winds, w) ? calm : w;
                calmUpTo[w] = calm;
            }
        }

        private static boolean canFollow(Mast mast, int number, int done) {
            return !isIn(done, number) && (mast.feed == NONE || isIn(done, mast.feed));
        }

        private void findSoonest(Land land) {
            int all = allOf(land);
            Arrays.fill(soonest, LAST_TURN + 1);
            soonest[0] = 0;
            for (int done = 0; done < all; done++) {
                for (int m = 0; m < land.mastCount; m++) {
                    if (canFollow(land.masts[m], m, done)) {
                        int more = done | 1 << m;
                        int turn = firstTurn(land.masts[m].high, soonest[done]);
                        soonest[more] = Math.min(soonest[more], turn + 1);
                    }
                }
            }
        }

        private int firstTurn(boolean high, int from) {
            int week = from / crews;
            if (week >= WEEKS) {
                return LAST_TURN;
            }
            if (!high || calmFrom[week] == week) {
                return from;
            }
            return calmFrom[week] < WEEKS ? calmFrom[week] * crews : LAST_TURN;
        }

        private void findLatest(Land land, int weeks) {
            int all = allOf(land);
            Arrays.fill(latest, NONE);
            latest[all] = weeks * crews;
            for (int done = all - 1; done >= 0; done--) {
                for (int m = 0; m < land.mastCount; m++) {
                    if (canFollow(land.masts[m], m, done)) {
                        int turn = lastTurn(land.masts[m].high, latest[done | 1 << m] - 1);
                        latest[done] = Math.max(latest[done], turn);
                    }
                }
            }
        }

        private int lastTurn(boolean high, int upTo) {
            if (upTo < 0) {
                return NONE;
            }
            int week = Math.min(upTo / crews, WEEKS - 1);
            if (!high || calmUpTo[week] == week) {
                return upTo;
            }
            return calmUpTo[week] == NONE ? NONE : calmUpTo[week] * crews + crews - 1;
        }

        private void pickSets(Land land, int weeks, long winds) {
            int done = 0;
            for (int w = 0; w < weeks; w++) {
                done |= leastSet(land, done, w, isWindy(winds, w));
            }
        }

        /** Gives the week to the least set behind which the others can still be done in time. */
        private int leastSet(Land land, int done, int week, boolean windy) {
            int all = allOf(land);
            for (int set = 0; set <= all; set++) {
                if ((set & done) == 0 && latest[done | set] >= (week + 1) * crews
                        && Integer.bitCount(set) <= crews && isAllowed(land, set, done, windy)) {
                    for (int m = 0; m < land.mastCount; m++) {
                        if (isIn(set, m)) {
                            land.masts[m].week = week;
                        }
                    }
                    return set;
                }
            }
            return 0;
        }

        private static boolean isAllowed(Land land, int set, int done, boolean windy) {
            for (int m = 0; m < land.mastCount; m++) {
                Mast mast = land.masts[m];
                boolean fed = mast.feed == NONE || isIn(done | set, mast.feed);
                if (isIn(set, m) && (!fed || (windy && mast.high))) {
                    return false;
                }
            }
            return true;
        }
    }

    /** Looks for new channels. */
    private static final class Tuner {
        private static final int FOUND = 1;

        private final int[] near = new int[MASTS];
        private final int[] banned = new int[MASTS];
        private final int[] blocked = new int[MASTS];
        private final int[] chosen = new int[MASTS];
        int looked;

        /** Answers how many unlike channels the masts have now, or NONE or REFUSED (full). */
        int search(Land land) {
            findNear(land);
            for (int m = 0; m < land.mastCount; m++) {
                banned[m] = bannedFor(land, m);
            }
            int outcome = tryChannels(land.mastCount - 1);
            if (outcome != FOUND) {
                return outcome;
            }
            int used = 0;
            for (int m = 0; m < land.mastCount; m++) {
                land.masts[m].newChannel = chosen[m];
                used |= 1 << chosen[m];
            }
            return Integer.bitCount(used);
        }

        private void findNear(Land land) {
            Arrays.fill(near, 0);
            for (int a = 0; a < land.areaCount; a++) {
                int mast = land.areas[a].mast;
                for (int s = 0; land.isMast(mast) && s < SENDERS; s++) {
                    if (land.couldHurt(s, land.areas[a])) {
                        near[mast] |= 1 << s;
                        if (s < MASTS) {
                            near[s] |= 1 << mast;
                        }
                    }
                }
            }
        }

        /** What near senders still send, on channels that do not move, when the mast is NEW. */
        private int bannedFor(Land land, int number) {
            int week = land.masts[number].week;
            int channels = 0;
            for (int s = 0; s < SENDERS; s++) {
                Mast other = land.masts[s];
                int sentUntil = s < MASTS ? other.week : other.until;
                if (isIn(near[number], s) && sentUntil > week) {
                    channels |= 1 << other.channel;
                }
            }
            return channels;
        }

        private int tryChannels(int last) {
            int at = 0;
            begin(at);
            for (looked = 1; looked <= MOST_LOOKS; looked++) {
                if (isIn(blocked[at], chosen[at])) {
                    at = lastWithMore(at);
                    if (at < 0) {
                        return NONE;
                    }
                    chosen[at]++;
                } else if (at >= last) {
                    return FOUND;
                } else {
                    at++;
                    begin(at);
                }
            }
            looked = MOST_LOOKS;
            return REFUSED;
        }

        private void begin(int number) {
            chosen[number] = 0;
            blocked[number] = banned[number];
            for (int m = 0; m < number; m++) {
                if (isIn(near[number], m)) {
                    blocked[number] |= 1 << chosen[m];
                }
            }
        }

        private int lastWithMore(int from) {
            int at = from;
            while (at >= 0 && chosen[at] >= CHANNELS - 1) {
                at--;
            }
            return at;
        }
    }

    private static final class Tape {
        final byte[] bytes = new byte[MOST_BYTES];
        int length;

        boolean hasRoomFor(int numbers) {
            return length + 4 * numbers <= bytes.length;
        }

        void append(int number) {
            if (!hasRoomFor(1)) {
                return;
            }
            for (int shift = 24; shift >= 0; shift -= 8) {
                bytes[length] = (byte) (number >> shift);
                length++;
            }
        }

        /** Beyond the bytes the answer is, as for those above 127, one that no token has. */
        int at(int place) {
            return place >= 0 && place < length ? bytes[place] : NONE;
        }

        boolean has(String word, int from, int to) {
            if (to - from != word.length()) {
                return false;
            }
            for (int i = 0; i < word.length(); i++) {
                if (at(from + i) != word.charAt(i)) {
                    return false;
                }
            }
            return true;
        }
    }

    /**
     * A law, as steps that work on a stack: a step from 0 on puts that number, one from Law.STOCK
     * to Law.HOMES puts a fact, and one below is a sign (the negative of its byte) that takes two.
     */
    private static final class Law {
        static final int FACTS = 6;
        static final int HOMES = -1;
        static final int POOR = -2;
        static final int AGED = -3;
        static final int BOXES = -4;
        static final int WEEK = -5;
        static final int STOCK = -6;
        static final int PLUS = -'+';
        static final int MINUS = -'-';
        static final int TIMES = -'*';
        static final int OVER = -'/';
        static final int LESS = -'<';
        static final int MORE = -'>';
        static final int SAME = -'=';
        /** Sums in 8 parentheses hold back two values each, and a condition one more. */
        private static final int DEEPEST = 2 * MOST_PARENS + 4;

        private final int[] steps = new int[MOST_BYTES];
        private final int[] sumFrom = new int[MOST_RULES];
        private final int[] sumTo = new int[MOST_RULES];
        private final int[] condsTo = new int[MOST_RULES];
        private final long[] stack = new long[DEEPEST];
        private int stepCount;
        private int gives;
        private int top;
        int rules;
        /** The stock never holds more than the cap of a law without one. */
        int cap = MOST_STOCK;

        void clear() {
            stepCount = 0;
            gives = 0;
            rules = 0;
            cap = MOST_STOCK;
        }

        void add(int step) {
            if (stepCount < steps.length) {
                steps[stepCount] = step;
                stepCount++;
            }
        }

        void beginSum() {
            if (gives < MOST_RULES) {
                sumFrom[gives] = stepCount;
            }
        }

        void endSum() {
            if (gives < MOST_RULES) {
                sumTo[gives] = stepCount;
            }
        }

        void endGive() {
            if (gives < MOST_RULES) {
                condsTo[gives] = stepCount;
                gives++;
            }
        }

        long gift(int[] facts) {
            for (int g = 0; g < gives; g++) {
                if (holds(sumTo[g], condsTo[g], facts)) {
                    holds(sumFrom[g], sumTo[g], facts);
                    return pop();
                }
            }
            return 0;
        }

        /** Takes the steps; ends with false at the first comparison that does not hold. */
        private boolean holds(int from, int to, int[] facts) {
            top = 0;
            for (int i = from; i < to; i++) {
                int step = steps[i];
                if (step >= 0) {
                    push(step);
                } else if (step >= STOCK) {
                    push(facts[HOMES - step]);
                } else {
                    long right = pop();
                    long left = pop();
                    if (!isComparison(step)) {
                        push(combined(step, left, right));
                    } else if (!compares(step, left, right)) {
                        return false;
                    }
                }
            }
            return true;
        }

        private void push(long value) {
            if (top < stack.length) {
                stack[top] = value;
                top++;
            }
        }

        private long pop() {
            if (top == 0) {
                return 0;
            }
            top--;
            return stack[top];
        }

        static boolean isComparison(int sign) {
            return sign == LESS || sign == MORE || sign == SAME;
        }

        private static boolean compares(int sign, long left, long right) {
            if (sign == LESS) {
                return left < right;
            }
            return sign == MORE ? left > right : left == right;
        }

        private static long combined(int sign, long left, long right) {
            switch (sign) {
                case PLUS: return left + right;
                case MINUS: return left - right;
                case TIMES: return left * right;
                default: return quotient(left, right);
            }
        }

        private static long quotient(long left, long right) {
            if (right == 0) {
                return 0;
            }
            return right == -1 ? -left : left / right;
        }
    }

    /**
     * The tokens of a text, each as one number: from 0 on it is that number of the text, a fact or
     * a sign is as the law's steps have it, and all others are far below those.
     */
    private static final class Tokens {
        static final int END = -100;
        static final int NO_TOKEN = -101;
        static final int GIVE = -102;
        static final int CAP = -103;
        static final int IF = -104;
        static final int AND = -105;
        static final int OPEN = -'(';
        static final int CLOSE = -')';
        static final int NEXT_RULE = -';';

        private final int[] kinds = new int[MOST_BYTES];
        private final int[] places = new int[MOST_BYTES];
        private int count;
        private int at;
        private int textLength;

        int kind() {
            return at < count ? kinds[at] : END;
        }

        int place() {
            return at < count ? places[at] : textLength;
        }

        void next() {
            if (at < count) {
                at++;
            }
        }

        void split(Tape text) {
            textLength = text.length;
            count = 0;
            at = 0;
            int to = 0;
            for (int from = 0; from < textLength && count < kinds.length; from = to) {
                int first = text.at(from);
                to = from + 1;
                if (isBlank(first)) {
                    continue;
                }
                while (to < textLength && (isLetter(first) && isLetter(text.at(to))
                        || isDigit(first) && isDigit(text.at(to)))) {
                    to++;
                }
                kinds[count] = isDigit(first) ? numberOf(text, from, to) : kindOfText(text, from, to);
                places[count] = from;
                count++;
            }
        }

        private static int numberOf(Tape text, int from, int to) {
            int number = 0;
            for (int i = from; i < to; i++) {
                // Held just above the most, since a text has room for numbers that no int has.
                number = Math.min(number * 10 + text.at(i) - '0', MOST_NUMBER + 1);
            }
            return number > MOST_NUMBER ? NO_TOKEN : number;
        }

        private static int kindOfText(Tape text, int from, int to) {
            if (isLetter(text.at(from))) {
                int kind = kindOfFact(text, from, to);
                return kind == NO_TOKEN ? kindOfRuleWord(text, from, to) : kind;
            }
            return isSign(text.at(from)) ? -text.at(from) : NO_TOKEN;
        }

        private static int kindOfFact(Tape text, int from, int to) {
            if (text.has("homes", from, to)) {
                return Law.HOMES;
            }
            if (text.has("poor", from, to)) {
                return Law.POOR;
            }
            if (text.has("aged", from, to)) {
                return Law.AGED;
            }
            if (text.has("boxes", from, to)) {
                return Law.BOXES;
            }
            if (text.has("week", from, to)) {
                return Law.WEEK;
            }
            return text.has("stock", from, to) ? Law.STOCK : NO_TOKEN;
        }

        private static int kindOfRuleWord(Tape text, int from, int to) {
            if (text.has("give", from, to)) {
                return GIVE;
            }
            if (text.has("cap", from, to)) {
                return CAP;
            }
            if (text.has("if", from, to)) {
                return IF;
            }
            return text.has("and", from, to) ? AND : NO_TOKEN;
        }

        private static boolean isBlank(int c) {
            return c == ' ' || c == '\n';
        }

        private static boolean isDigit(int c) {
            return c >= '0' && c <= '9';
        }

        private static boolean isLetter(int c) {
            return c >= 'a' && c <= 'z';
        }

        private static boolean isSign(int c) {
            switch (c) {
                case '+': case '-': case '*': case '/': case '(': case ')':
                case '<': case '>': case '=': case ';':
                    return true;
                default:
                    return false;
            }
        }
    }

    /**
     * Reads a law's text. Each method that reads a part answers whether it stands there; if not,
     * the token at hand is the first that can't stand there, as none is taken before it fits.
     */
    private static final class LawReader {
        private final Tokens tokens = new Tokens();
        /** A law of its own to write into, so that a fault leaves the one in force as it was. */
        private Law draft = new Law();

        /** Answers the place of the text's fault, or NONE: then exchange() has its law. */
        int faultOf(Tape text) {
            tokens.split(text);
            draft.clear();
            if (tokens.kind() == Tokens.END) {
                return NONE;
            }
            for (int r = 0; r < MOST_RULES; r++) {
                if (tokens.kind() == Tokens.GIVE ? !readGive() : !readCap()) {
                    break;
                }
                draft.rules++;
                if (tokens.kind() == Tokens.END) {
                    return NONE;
                }
                if (tokens.kind() != Tokens.NEXT_RULE) {
                    break;
                }
                tokens.next();
            }
            return tokens.place();
        }

        Law exchange(Law former) {
            Law read = draft;
            draft = former;
            return read;
        }

        private boolean readCap() {
            if (tokens.kind() != Tokens.CAP) {
                return false;
            }
            tokens.next();
            if (tokens.kind() < 0) {
                return false;
            }
            draft.cap = Math.min(draft.cap, tokens.kind());
            tokens.next();
            return true;
        }

        private boolean readGive() {
            tokens.next();
            draft.beginSum();
            if (!readSum(0)) {
                return false;
            }
            draft.endSum();
            if (tokens.kind() == Tokens.IF && !readConds()) {
                return false;
            }
            draft.endGive();
            return true;
        }

        private boolean readConds() {
            for (int conds = 0; conds < MOST_BYTES; conds++) {
                tokens.next();
                if (!readSum(0) || !Law.isComparison(tokens.kind())) {
                    return false;
                }
                int sign = tokens.kind();
                tokens.next();
                if (!readSum(0)) {
                    return false;
                }
                draft.add(sign);
                if (tokens.kind() != Tokens.AND) {
                    return true;
                }
            }
            return false;
        }

        private boolean readSum(int parens) {
            if (!readTerm(parens)) {
                return false;
            }
            for (int terms = 1; terms < MOST_BYTES; terms++) {
                int sign = tokens.kind();
                if (sign != Law.PLUS && sign != Law.MINUS) {
                    return true;
                }
                tokens.next();
                if (!readTerm(parens)) {
                    return false;
                }
                draft.add(sign);
            }
            return true;
        }

        private boolean readTerm(int parens) {
            if (!readFactor(parens)) {
                return false;
            }
            for (int factors = 1; factors < MOST_BYTES; factors++) {
                int sign = tokens.kind();
                if (sign != Law.TIMES && sign != Law.OVER) {
                    return true;
                }
                tokens.next();
                if (!readFactor(parens)) {
                    return false;
                }
                draft.add(sign);
            }
            return true;
        }

        private boolean readFactor(int parens) {
            if (tokens.kind() == Tokens.OPEN) {
                if (parens >= MOST_PARENS) {
                    return false;
                }
                tokens.next();
                if (!readSum(parens + 1) || tokens.kind() != Tokens.CLOSE) {
                    return false;
                }
            } else if (tokens.kind() >= Law.STOCK) {
                draft.add(tokens.kind());
            } else {
                return false;
            }
            tokens.next();
            return true;
        }
    }

    /** A slot's row. Its numbers are held at full length and cut when they are written. */
    private static final class Row {
        final long[] numbers = new long[MOST_NUMBERS];
        int width;
        /** NONE while the slot has nothing: a row of no numbers is a row too. */
        int size = NONE;

        boolean isEmpty() {
            return size == NONE;
        }

        void begin(int ofWidth, int n) {
            width = ofWidth;
            size = n;
            Arrays.fill(numbers, 0L);
        }

        long cut(long v) {
            switch (width) {
                case 0: return (byte) v;
                case 1: return (short) v;
                case 2: return (int) v;
                default: return v;
            }
        }

        boolean reaches(int place, int n) {
            return place >= 0 && n >= 0 && place <= size && n <= size - place;
        }
    }
}
