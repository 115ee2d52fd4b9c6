import java.util.Arrays;

/**
 * Told out of order: scenes of a story, tellings of them with frames, what is wrong in a telling,
 * and which order or which frames make a reader jump the least.
 */
public final class ToldScenes {
    public static final int UNKNOWN = -1, OUTSIDE = -2, STATE = -3, FULL = -4, OVER = -5, NONE = -9;
    public static final long LOST = Long.MIN_VALUE;

    private static final int MOST_SCENES = 8;
    private static final int MOST_CLUES = 8;
    private static final int ALL_CLUES = 255;
    private static final int MOST_SIGNS = 40;
    private static final int FIRST_FEE = 100;
    private static final int MOST_FEE = 1000000;
    private static final int OPENS = 20;
    private static final int CLOSES = 21;
    private static final int BACK = 0;
    private static final int FORTH = 1;
    private static final int NOBODY = -1;

    private final Cast cast;
    private final int[] signs;
    private int signCount;
    private int feeNow;
    private int lookCount;
    private final Look look;
    private final int[] row;
    private final LeastOrder leastOrder;
    private final LeastFrames leastFrames;

    public ToldScenes() {
        cast = new Cast();
        signs = new int[MOST_SIGNS];
        signCount = 0;
        feeNow = FIRST_FEE;
        lookCount = 0;
        look = new Look();
        row = new int[MOST_SIGNS];
        leastOrder = new LeastOrder();
        leastFrames = new LeastFrames();
    }

    // ---- 1 scenes

    public int scene(int from, int length, int gives, int needs) {
        if (length < 1 || !isClueSet(gives) || !isClueSet(needs)) {
            return OUTSIDE;
        }
        if (cast.count >= MOST_SCENES) {
            return FULL;
        }
        if (!fitsInt((long) from + length)) {
            return OVER;
        }
        forgetBest();
        return cast.append(from, length, gives, needs);
    }

    public long ofScene(int k, int what) {
        if (!cast.has(k)) {
            return LOST;
        }
        switch (what) {
            case 0:
                return cast.from[k];
            case 1:
                return cast.length[k];
            case 2:
                return cast.endOf(k);
            case 3:
                return cast.gives[k];
            case 4:
                return cast.needs[k];
            default:
                return LOST;
        }
    }

    public int move(int k, int d) {
        if (!cast.has(k)) {
            return UNKNOWN;
        }
        if (!cast.canMove(k, d)) {
            return OVER;
        }
        cast.from[k] += d;
        forgetBest();
        return 1;
    }

    public int shift(int d) {
        for (int k = 0; k < cast.count; k++) {
            if (!cast.canMove(k, d)) {
                return OVER;
            }
        }
        for (int k = 0; k < cast.count && k < MOST_SCENES; k++) {
            cast.from[k] += d;
        }
        forgetBest();
        return cast.count;
    }

    public int stretch(int k, int times) {
        if (!cast.has(k)) {
            return UNKNOWN;
        }
        if (times < 1) {
            return OUTSIDE;
        }
        long longer = (long) cast.length[k] * times;
        if (!fitsInt(longer) || !fitsInt(cast.from[k] + longer)) {
            return OVER;
        }
        cast.length[k] = (int) longer;
        forgetBest();
        return 1;
    }

    public int clue(int k, int c, int which, boolean is) {
        if (!cast.has(k) || !isClue(c)) {
            return UNKNOWN;
        }
        if (which != 0 && which != 1) {
            return OUTSIDE;
        }
        int[] sets = which == 0 ? cast.gives : cast.needs;
        int bit = 1 << c;
        int then = is ? sets[k] | bit : sets[k] & ~bit;
        if (then == sets[k]) {
            return 0;
        }
        sets[k] = then;
        forgetBest();
        return 1;
    }

    public int ofClue(int c, int which) {
        if (!isClue(c)) {
            return UNKNOWN;
        }
        if (which != 0 && which != 1) {
            return OUTSIDE;
        }
        int[] sets = which == 0 ? cast.gives : cast.needs;
        int found = 0;
        for (int k = 0; k < cast.count && k < MOST_SCENES; k++) {
            if (isIn(sets[k], c)) {
                found |= 1 << k;
            }
        }
        return found;
    }

    public int drop() {
        if (cast.count <= 0) {
            return STATE;
        }
        cast.count--;
        forgetBest();
        return cast.count;
    }

    public int fee(int v) {
        if (v < 0 || v > MOST_FEE) {
            return OUTSIDE;
        }
        int before = feeNow;
        feeNow = v;
        forgetBest();
        return before;
    }

    public long jump(int a, int b) {
        if (!cast.has(a) || !cast.has(b) || a == b) {
            return LOST;
        }
        return cast.jumpBetween(a, b);
    }

    public long span(int what) {
        if (what < 0 || what > 1 || cast.count <= 0) {
            return LOST;
        }
        return what == 0 ? cast.extent() : cast.untold();
    }

    // ---- 2 tellings

    public int add(int sign) {
        boolean tells = sign >= 0 && sign < MOST_SCENES;
        if (!tells && sign != OPENS && sign != CLOSES) {
            return OUTSIDE;
        }
        if (signCount >= MOST_SIGNS) {
            return FULL;
        }
        signs[signCount] = sign;
        signCount++;
        forgetBest();
        return signCount;
    }

    public int cut(int n) {
        if (n < 0 || n > signCount) {
            return OUTSIDE;
        }
        signCount -= n;
        forgetBest();
        return signCount;
    }

    public int judge(int what) {
        lookCount++;
        if (what < 0 || what > 5) {
            return OUTSIDE;
        }
        look.goThrough(cast, signs, signCount);
        switch (what) {
            case 0:
                return look.isWrong() ? look.firstWrong : NONE;
            case 1:
                return look.isWrong() ? look.reason : NONE;
            case 2:
                return look.opened;
            case 3:
                return look.mostOpen;
            case 4:
                return look.toldCount;
            default:
                return look.given;
        }
    }

    public int jumps() {
        lookCount++;
        look.goThrough(cast, signs, signCount);
        if (look.isWrong()) {
            return STATE;
        }
        return intOrOver(look.jumpSum + (long) feeNow * look.opened);
    }

    public int told(int k, int what) {
        lookCount++;
        if (!cast.has(k)) {
            return UNKNOWN;
        }
        if (what < 0 || what > 3) {
            return OUTSIDE;
        }
        look.goThrough(cast, signs, signCount);
        if (look.isWrong()) {
            return STATE;
        }
        if (!look.hasTold(k)) {
            return NONE;
        }
        switch (what) {
            case 0:
                return look.turnOf[k];
            case 1:
                return look.depthOf[k];
            case 2:
                return look.tellerOf[k] == NOBODY ? NONE : look.tellerOf[k];
            default:
                return look.sideOf[k];
        }
    }

    // ---- 3 what is best

    public int order(int k) {
        if (k < -1 || k >= MOST_SCENES) {
            return OUTSIDE;
        }
        if (!leastOrder.stands) {
            leastOrder.find(cast);
        }
        if (leastOrder.count == 0 || k >= leastOrder.count) {
            return NONE;
        }
        return k < 0 ? intOrOver(leastOrder.jumpSum) : leastOrder.scenes[k];
    }

    public int framed(int k) {
        if (k < -2 || k >= MOST_SIGNS) {
            return OUTSIDE;
        }
        if (!leastFrames.stands) {
            findFrames();
        }
        if (leastFrames.count == 0) {
            return STATE;
        }
        if (k == -2) {
            return leastFrames.count;
        }
        if (k == -1) {
            return intOrOver(leastFrames.jumpSum);
        }
        return k < leastFrames.count ? leastFrames.signs[k] : NONE;
    }

    public int untangled() {
        int count = writeRow();
        look.goThrough(cast, row, count);
        if (look.isWrong()) {
            return STATE;
        }
        long least = look.jumpSum;
        int found = NONE;
        for (int i = 0; i + 1 < count && i + 1 < MOST_SIGNS; i++) {
            changePlaces(i);
            look.goThrough(cast, row, count);
            changePlaces(i);
            if (!look.isWrong() && look.jumpSum < least) {
                least = look.jumpSum;
                found = i;
            }
        }
        return found;
    }

    public int many(int what) {
        switch (what) {
            case 0:
                return cast.count;
            case 1:
                return signCount;
            case 2:
                return feeNow;
            case 3:
                return lookCount;
            case 4:
                return Integer.bitCount(cast.allNeeds() & ~cast.givenBy(cast.everyone()));
            default:
                return OUTSIDE;
        }
    }

    // ---- what the calls above share

    /** What is best is found anew only behind a change: it is asked for sign by sign. */
    private void forgetBest() {
        leastOrder.stands = false;
        leastFrames.stands = false;
    }

    private void findFrames() {
        int count = writeRow();
        look.goThrough(cast, row, count);
        if (look.isWrong()) {
            count = 0;
        }
        leastFrames.find(cast, row, count, feeNow);
    }

    /** THE ROW is every sign that tells a scene, those behind a wrong one too. */
    private int writeRow() {
        int count = 0;
        for (int i = 0; i < signCount && i < MOST_SIGNS; i++) {
            if (signs[i] < MOST_SCENES) {
                row[count] = signs[i];
                count++;
            }
        }
        return count;
    }

    private void changePlaces(int i) {
        if (i < 0 || i + 1 >= MOST_SIGNS) {
            return;
        }
        int first = row[i];
        row[i] = row[i + 1];
        row[i + 1] = first;
    }

    private static boolean isClue(int c) {
        return c >= 0 && c < MOST_CLUES;
    }

    private static boolean isClueSet(int set) {
        return set >= 0 && set <= ALL_CLUES;
    }

    private static boolean isIn(int set, int number) {
        return (set >> number & 1) == 1;
    }

    private static boolean fitsInt(long v) {
        return v >= Integer.MIN_VALUE && v <= Integer.MAX_VALUE;
    }

    private static int intOrOver(long v) {
        return fitsInt(v) ? (int) v : OVER;
    }

    /** The scenes that there are. */
    private static final class Cast {
        final int[] from = new int[MOST_SCENES];
        final int[] length = new int[MOST_SCENES];
        final int[] gives = new int[MOST_SCENES];
        final int[] needs = new int[MOST_SCENES];
        int count = 0;

        boolean has(int k) {
            return k >= 0 && k < count && k < MOST_SCENES;
        }

        int append(int newFrom, int newLength, int newGives, int newNeeds) {
            int k = count;
            if (k < 0 || k >= MOST_SCENES) {
                return FULL;
            }
            from[k] = newFrom;
            length[k] = newLength;
            gives[k] = newGives;
            needs[k] = newNeeds;
            count++;
            return k;
        }

        long endOf(int k) {
            return k >= 0 && k < MOST_SCENES ? (long) from[k] + length[k] : 0;
        }

        boolean canMove(int k, int d) {
            return has(k) && fitsInt((long) from[k] + d) && fitsInt(endOf(k) + d);
        }

        long jumpBetween(int a, int b) {
            return has(a) && has(b) ? Math.abs(from[b] - endOf(a)) : 0;
        }

        int sideBy(int k, int teller) {
            if (!has(k) || !has(teller)) {
                return NONE;
            }
            if (endOf(k) <= from[teller]) {
                return BACK;
            }
            return from[k] >= endOf(teller) ? FORTH : NONE;
        }

        int everyone() {
            return (1 << count) - 1;
        }

        int givenBy(int set) {
            int given = 0;
            for (int k = 0; k < count && k < MOST_SCENES; k++) {
                if (isIn(set, k)) {
                    given |= gives[k];
                }
            }
            return given;
        }

        int allNeeds() {
            int needed = 0;
            for (int k = 0; k < count && k < MOST_SCENES; k++) {
                needed |= needs[k];
            }
            return needed;
        }

        /** The scenes that are not of this set and need no clue but what it gives. */
        int readyAfter(int set) {
            int given = givenBy(set);
            int ready = 0;
            for (int k = 0; k < count && k < MOST_SCENES; k++) {
                if (!isIn(set, k) && (needs[k] & ~given) == 0) {
                    ready |= 1 << k;
                }
            }
            return ready;
        }

        long extent() {
            long least = Long.MAX_VALUE;
            long greatest = Long.MIN_VALUE;
            for (int k = 0; k < count && k < MOST_SCENES; k++) {
                least = Math.min(least, from[k]);
                greatest = Math.max(greatest, endOf(k));
            }
            return count > 0 ? greatest - least : 0;
        }

        /** Each gap begins at some scene's end: of scenes that end together the first one counts it. */
        long untold() {
            long sum = 0;
            for (int k = 0; k < count; k++) {
                if (isFirstToEnd(k)) {
                    sum += gapBehind(endOf(k));
                }
            }
            return sum;
        }

        private boolean isFirstToEnd(int k) {
            for (int other = 0; other < k; other++) {
                if (endOf(other) == endOf(k)) {
                    return false;
                }
            }
            return true;
        }

        private long gapBehind(long time) {
            long next = Long.MAX_VALUE;
            for (int k = 0; k < count && k < MOST_SCENES; k++) {
                if (from[k] > time) {
                    next = Math.min(next, from[k]);
                } else if (endOf(k) > time) {
                    return 0;
                }
            }
            return next == Long.MAX_VALUE ? 0 : next - time;
        }
    }

    /**
     * A telling as a reader goes through it. A frame stays open only while its teller is the last scene
     * of what the frame is in; so the tellers themselves are the stack of what is open.
     */
    private static final class Look {
        final int[] turnOf = new int[MOST_SCENES];
        final int[] depthOf = new int[MOST_SCENES];
        final int[] tellerOf = new int[MOST_SCENES];
        final int[] sideOf = new int[MOST_SCENES];
        int firstWrong;
        int reason;
        int opened;
        int mostOpen;
        int toldCount;
        int given;
        long jumpSum;
        private int openNow;
        private int lastNow;
        private int tellerNow;
        private int sideNow;

        boolean isWrong() {
            return reason != 0;
        }

        boolean hasTold(int k) {
            return k >= 0 && k < MOST_SCENES && turnOf[k] >= 0;
        }

        void goThrough(Cast cast, int[] row, int count) {
            begin();
            for (int i = 0; i < count && i < row.length && reason == 0; i++) {
                reason = whyWrong(cast, row[i]);
                if (reason == 0) {
                    take(cast, row[i]);
                } else {
                    firstWrong = i;
                }
            }
            if (reason == 0 && openNow > 0) {
                reason = 7;
                firstWrong = count;
            }
        }

        private void begin() {
            Arrays.fill(turnOf, -1);
            firstWrong = 0;
            reason = 0;
            opened = 0;
            mostOpen = 0;
            toldCount = 0;
            given = 0;
            jumpSum = 0;
            openNow = 0;
            lastNow = NOBODY;
            tellerNow = NOBODY;
            sideNow = NONE;
        }

        private int whyWrong(Cast cast, int sign) {
            if (sign == OPENS) {
                return lastNow == NOBODY ? 5 : 0;
            }
            if (sign == CLOSES) {
                return tellerNow == NOBODY || lastNow == NOBODY ? 6 : 0;
            }
            if (!cast.has(sign)) {
                return 1;
            }
            if (hasTold(sign)) {
                return 2;
            }
            if ((cast.needs[sign] & ~given) != 0) {
                return 3;
            }
            return tellerNow == NOBODY || isOnSide(cast, sign) ? 0 : 4;
        }

        private boolean isOnSide(Cast cast, int k) {
            int side = cast.sideBy(k, tellerNow);
            return side != NONE && (sideNow == NONE || sideNow == side);
        }

        private void take(Cast cast, int sign) {
            if (sign == OPENS) {
                openFrame();
            } else if (sign == CLOSES) {
                closeFrame();
            } else {
                tell(cast, sign);
            }
        }

        private void openFrame() {
            tellerNow = lastNow;
            lastNow = NOBODY;
            sideNow = NONE;
            opened++;
            openNow++;
            mostOpen = Math.max(mostOpen, openNow);
        }

        private void closeFrame() {
            int teller = tellerNow;
            if (!hasTold(teller)) {
                return;
            }
            lastNow = teller;
            tellerNow = tellerOf[teller];
            sideNow = sideOf[teller];
            openNow--;
        }

        private void tell(Cast cast, int k) {
            if (!cast.has(k)) {
                return;
            }
            if (tellerNow != NOBODY) {
                sideNow = cast.sideBy(k, tellerNow);
            }
            if (lastNow != NOBODY) {
                jumpSum += cast.jumpBetween(lastNow, k);
            }
            turnOf[k] = toldCount;
            depthOf[k] = openNow;
            tellerOf[k] = tellerNow;
            sideOf[k] = sideNow;
            lastNow = k;
            toldCount++;
            given |= cast.gives[k];
        }
    }

    /** THE ORDER, found from its end: for each set of told scenes and the last of them, the least jumps yet to come. */
    private static final class LeastOrder {
        private static final int SETS = 1 << MOST_SCENES;
        private static final long NEVER = -1;

        private final long[] rest = new long[SETS * MOST_SCENES];
        final int[] scenes = new int[MOST_SCENES];
        int count = 0;
        long jumpSum = 0;
        boolean stands = false;

        void find(Cast cast) {
            stands = true;
            count = 0;
            jumpSum = 0;
            int all = cast.everyone();
            for (int told = all; told >= 0 && told < SETS; told--) {
                fillRest(cast, told, all);
            }
            if (cast.count > 0 && rest[0] != NEVER) {
                jumpSum = rest[0];
                follow(cast);
            }
        }

        private void fillRest(Cast cast, int told, int all) {
            int ready = cast.readyAfter(told);
            for (int last = 0; last < cast.count && last < MOST_SCENES; last++) {
                if (told == all) {
                    rest[told * MOST_SCENES + last] = 0;
                } else if (told == 0 || isIn(told, last)) {
                    int next = nextBehind(cast, told, last, ready);
                    rest[told * MOST_SCENES + last] = restBy(cast, told, last, next);
                }
            }
        }

        /** The least number of those that are best, so that the row found is the first of several. */
        private int nextBehind(Cast cast, int told, int last, int ready) {
            long least = NEVER;
            int found = NOBODY;
            for (int next = 0; next < cast.count; next++) {
                if (isIn(ready, next)) {
                    long sum = restBy(cast, told, last, next);
                    if (sum != NEVER && (found == NOBODY || sum < least)) {
                        least = sum;
                        found = next;
                    }
                }
            }
            return found;
        }

        /** To the first scene of a row there is no jump, whatever stands as the last one. */
        private long restBy(Cast cast, int told, int last, int next) {
            if (next < 0 || next >= MOST_SCENES) {
                return NEVER;
            }
            int place = (told | 1 << next) * MOST_SCENES + next;
            if (place < 0 || place >= rest.length || rest[place] == NEVER) {
                return NEVER;
            }
            return rest[place] + (told == 0 ? 0 : cast.jumpBetween(last, next));
        }

        private void follow(Cast cast) {
            int told = 0;
            int last = 0;
            for (int i = 0; i < cast.count && i < MOST_SCENES; i++) {
                int next = nextBehind(cast, told, last, cast.readyAfter(told));
                if (next == NOBODY) {
                    return;
                }
                scenes[i] = next;
                count = i + 1;
                told |= 1 << next;
                last = next;
            }
        }
    }

    /**
     * FRAMED, found by trying each way to set scene behind scene. The signs are tried from the least on,
     * so of several tellings as good as one another the first as a row is met first and kept.
     */
    private static final class LeastFrames {
        private final int[] row = new int[MOST_SCENES];
        private int rowCount = 0;
        private final int[] tellerOf = new int[MOST_SCENES];
        private final int[] sideOf = new int[MOST_SCENES];
        private final int[] trial = new int[MOST_SIGNS];
        private int feeOfOne = 0;
        private int frameCount = 0;
        final int[] signs = new int[MOST_SIGNS];
        int count = 0;
        long jumpSum = 0;
        boolean stands = false;

        /** The row is not wrong, so no scene comes twice in it; with none in it there is nothing to find. */
        void find(Cast cast, int[] told, int toldCount, int fee) {
            stands = true;
            count = 0;
            jumpSum = Long.MAX_VALUE;
            frameCount = 0;
            feeOfOne = fee;
            takeRow(cast, told, toldCount);
            if (rowCount > 0) {
                int first = row[0];
                tellerOf[first] = NOBODY;
                sideOf[first] = NONE;
                trial[0] = first;
                setFrom(cast, 1, 1, 0, 0);
            }
        }

        private void takeRow(Cast cast, int[] told, int toldCount) {
            rowCount = 0;
            for (int i = 0; i < toldCount && i < told.length && i < MOST_SCENES; i++) {
                if (cast.has(told[i])) {
                    row[rowCount] = told[i];
                    rowCount++;
                }
            }
        }

        /** Places of the row ahead of this one are set; jumps and frames only become more. */
        private void setFrom(Cast cast, int place, int used, long sum, int frames) {
            if (sum > jumpSum || (sum == jumpSum && frames >= frameCount)) {
                return;
            }
            if (place < 1 || place >= rowCount || place >= MOST_SCENES) {
                keep(used, sum, frames);
                return;
            }
            int behind = row[place - 1];
            int free = used;
            for (int closed = 0; closed < MOST_SCENES && cast.has(behind) && free + 1 < MOST_SIGNS; closed++) {
                setBeside(cast, place, free, behind, sum, frames);
                setWithin(cast, place, free, behind, sum, frames);
                trial[free] = CLOSES;
                free++;
                behind = tellerOf[behind];
            }
        }

        private void setBeside(Cast cast, int place, int free, int behind, long sum, int frames) {
            int k = row[place];
            if (!cast.has(k) || !cast.has(behind)) {
                return;
            }
            int teller = tellerOf[behind];
            if (teller != NOBODY && cast.sideBy(k, teller) != sideOf[behind]) {
                return;
            }
            tellerOf[k] = teller;
            sideOf[k] = sideOf[behind];
            trial[free] = k;
            setFrom(cast, place + 1, free + 1, sum + cast.jumpBetween(behind, k), frames);
        }

        private void setWithin(Cast cast, int place, int free, int teller, long sum, int frames) {
            int k = row[place];
            int side = cast.sideBy(k, teller);
            if (side == NONE) {
                return;
            }
            tellerOf[k] = teller;
            sideOf[k] = side;
            trial[free] = OPENS;
            trial[free + 1] = k;
            setFrom(cast, place + 1, free + 2, sum + feeOfOne, frames + 1);
        }

        private void keep(int used, long sum, int frames) {
            if (used < 0 || used > MOST_SIGNS) {
                return;
            }
            jumpSum = sum;
            frameCount = frames;
            count = used;
            System.arraycopy(trial, 0, signs, 0, used);
            closeAll();
        }

        private void closeAll() {
            if (rowCount < 1 || rowCount > MOST_SCENES) {
                return;
            }
            int k = row[rowCount - 1];
            for (int closed = 0; closed < MOST_SCENES && tellerOf[k] != NOBODY && count < MOST_SIGNS; closed++) {
                signs[count] = CLOSES;
                count++;
                k = tellerOf[k];
            }
        }
    }
}
