/**
 * Furrows by moon: a parish in which nobody ploughs by day, and by night only
 * by as many quarters of moon as he has.
 */
public final class MoonRights {
    public static final int BAD = -1, STATE = -2, FULL = -3, NONE = -9;
    public static final int NO = -1000000;

    private static final int MOST_FARMERS = 5, MOST_STRIPS = 7, MOST_LETTERS = 200;
    private static final int MOST_CUTS = 6, MOST_FURROWS_CUT = 16;
    private static final int MOST_UNDONE = 10, IMAGES = 2;
    private static final int MOST_QUARTERS = 999, MOST_LENT = 99;
    private static final int LAST_NIGHT = 99, LAST_EASTER = 60, FIRST_EASTER = 30;
    private static final int NOT_SO_MANY = -5, FAULT_BASE = -10;

    private final Text text;
    private Parish told;
    private Parish spare;
    private final Almanac almanac;
    private final Standing standing;
    private final History history;
    private final Standing[] images;
    private final boolean[] kept;
    private final Cuts cutList;
    private final int[] balance;
    private long traced;

    public MoonRights() {
        text = new Text();
        told = new Parish();
        spare = new Parish();
        almanac = new Almanac();
        standing = new Standing();
        history = new History();
        images = new Standing[IMAGES];
        for (int i = 0; i < IMAGES; i++) {
            images[i] = new Standing();
        }
        kept = new boolean[IMAGES];
        cutList = new Cuts();
        balance = new int[MOST_FARMERS];
    }

    // ---- the parish

    public int type(int letter) {
        if (letter < 0 || letter > 255) {
            return BAD;
        }
        return text.add((char) letter) ? text.length : FULL;
    }

    public int clear() {
        int had = text.length;
        text.length = 0;
        return had;
    }

    public int parish() {
        int items = text.read(spare);
        if (items < 0) {
            return items;
        }
        // The old parish is the next spare one, so that reading makes no objects.
        Parish old = told;
        told = spare;
        spare = old;
        text.length = 0;
        almanac.drawn = false;
        standing.begin(told);
        history.forgetAll();
        cutList.size = 0;
        for (int i = 0; i < IMAGES; i++) {
            kept[i] = false;
        }
        return items;
    }

    public int farmer(int k, int what) {
        if (!isFarmer(k)) {
            return BAD;
        }
        switch (what) {
            case 0: return standing.quarters[k];
            case 1: return told.oxen[k];
            case 2: return standing.alive(k) ? 1 : 0;
            case 3: return standing.mates[k];
            case 4: return standing.hasPloughed(k) ? 1 : 0;
            default: return BAD;
        }
    }

    public int strip(int s, int what) {
        if (!isStrip(s)) {
            return BAD;
        }
        switch (what) {
            case 0: return standing.owners[s];
            case 1: return standing.left[s];
            case 2: return told.furrows[s];
            default: return BAD;
        }
    }

    public int night(int n, int what) {
        if (!isNight(n)) {
            return BAD;
        }
        switch (what) {
            case 0: return told.moon(n);
            case 1: return told.clouds[n] ? 1 : 0;
            default: return BAD;
        }
    }

    public int now(int what) {
        switch (what) {
            case 0: return standing.tonight;
            case 1: return doneStrips();
            case 2: return standing.living;
            case 3: return quartersOfAll();
            case 4: return fullNights();
            case 5: return history.known;
            default: return BAD;
        }
    }

    // ---- what is done

    public int ploughs(int k, int s) {
        if (!isFarmer(k) || !isStrip(s)) {
            return BAD;
        }
        int moon = told.moon(standing.tonight);
        if (!standing.mayPlough(k, s, moon)) {
            return STATE;
        }
        history.push(standing);
        int furrows = told.clouds[standing.tonight] ? 0 : moon * told.oxen[k];
        standing.plough(k, s, moon, furrows);
        return standing.left[s];
    }

    public int passes() {
        if (standing.tonight >= LAST_NIGHT) {
            return STATE;
        }
        history.push(standing);
        standing.tonight++;
        standing.ploughed = 0;
        return standing.tonight;
    }

    public int lends(int from, int to, int n) {
        if (!areTwo(from, to) || n < 1 || n > MOST_LENT) {
            return BAD;
        }
        int[] quarters = standing.quarters;
        if (!standing.alive(from) || !standing.alive(to)
                || quarters[from] < n || quarters[to] + n > MOST_QUARTERS) {
            return STATE;
        }
        history.push(standing);
        quarters[from] -= n;
        quarters[to] += n;
        return quarters[to];
    }

    public int marries(int a, int b) {
        if (!areTwo(a, b)) {
            return BAD;
        }
        if (!standing.free(a) || !standing.free(b)) {
            return STATE;
        }
        history.push(standing);
        standing.mates[a] = b;
        standing.mates[b] = a;
        return standing.quarters[a] + standing.quarters[b];
    }

    public int dies(int k) {
        if (!isFarmer(k)) {
            return BAD;
        }
        int lowest = standing.lowestOther(k);
        if (!standing.alive(k) || lowest == NONE) {
            return STATE;
        }
        history.push(standing);
        int heir = standing.mates[k] == NONE ? lowest : standing.mates[k];
        standing.bury(k, lowest, heir);
        return heir;
    }

    public int undo() {
        if (!history.pop(standing)) {
            return STATE;
        }
        return history.known;
    }

    // ---- nights

    public int least(int farmer, int s, int k) {
        if (!isFarmer(farmer) || !isStrip(s) || k < -2) {
            return BAD;
        }
        int quarters = leastQuarters(farmer, s);
        if (quarters == NONE || k == -1) {
            return quarters;
        }
        if (k == -2) {
            return almanac.nightsFor(standing.tonight, quarters);
        }
        return almanac.nightAt(standing.tonight, quarters, k);
    }

    public int soonest(int a, int b, int s) {
        if (!isFarmer(a) || !isStrip(s) || a == b || b != -1 && !isFarmer(b)) {
            return BAD;
        }
        int left = standing.left[s];
        if (left == 0) {
            return standing.tonight;
        }
        int first = standing.quarters[a];
        int second = b == -1 ? 0 : standing.quarters[b];
        for (int n = standing.tonight; n <= LAST_NIGHT; n++) {
            int moon = told.moon(n);
            int oxen = 0;
            // A moon of 0 passes both tests, but neither pays nor cuts by it.
            if (first >= moon) {
                first -= moon;
                oxen += told.oxen[a];
            }
            if (b != -1 && second >= moon) {
                second -= moon;
                oxen += told.oxen[b];
            }
            left -= told.clouds[n] ? 0 : moon * oxen;
            if (left <= 0) {
                return n;
            }
        }
        return NONE;
    }

    public int need(int k) {
        return isFarmer(k) ? needOf(k) : BAD;
    }

    public int lacks(int k) {
        if (!isFarmer(k)) {
            return BAD;
        }
        int needed = needOf(k);
        return needed == NONE ? NONE : Math.max(0, needed - standing.quarters[k]);
    }

    public int match(int what) {
        if (what != 0 && what != 1) {
            return BAD;
        }
        weighFreeFarmers();
        int pair = NONE;
        int most = 0;
        for (int a = 0; a < told.farmers; a++) {
            for (int b = 0; b < told.farmers; b++) {
                int covered = Math.min(-balance[a], balance[b]);
                if (covered > most) {
                    most = covered;
                    pair = 10 * a + b;
                }
            }
        }
        return what == 0 || pair == NONE ? pair : most;
    }

    // ---- lanterns, clouds

    public int cuts(int k, int night, int n) {
        if (!isFarmer(k) || !isNight(night) || n < 0 || n > MOST_FURROWS_CUT) {
            return BAD;
        }
        return cutList.add(k, night, n) ? cutList.size : FULL;
    }

    public int forget() {
        int had = cutList.size;
        cutList.size = 0;
        return had;
    }

    public int lit() {
        int bits = 0;
        for (int i = 0; i < cutList.size; i++) {
            int k = cutList.farmers[i];
            int n = cutList.nights[i];
            int honest = told.clouds[n] ? 0 : told.moon(n) * told.oxen[k];
            if (cutList.furrows[i] > honest) {
                bits |= 1 << k;
            }
        }
        return bits;
    }

    public int mean(int k, int x, int what) {
        if (!isFarmer(k) || x < 0 || x > 10 || what != 0 && what != 1) {
            return BAD;
        }
        int upper = 0;
        for (int n = standing.tonight; n < told.easter; n++) {
            upper += told.clouds[n] ? 0 : told.moon(n) * told.oxen[k] * x;
        }
        int divisor = sharedWithTen(upper);
        return what == 0 ? upper / divisor : 10 / divisor;
    }

    // ---- kinds, images

    public int rate(int kind, int s) {
        if (!isStrip(s)) {
            return NO;
        }
        switch (kind) {
            case 0: return asStrip(s);
            case 1: return asClay(s);
            case 2: return asSand(s);
            case 3: return asMarsh(s);
            case 4: return asHill(s);
            case 5: return asMoor(s);
            default: return NO;
        }
    }

    public int keep(int image) {
        if (!isImage(image)) {
            return BAD;
        }
        images[image].copy(standing);
        kept[image] = true;
        return standing.tonight;
    }

    public int back(int image) {
        if (!isImage(image)) {
            return BAD;
        }
        if (!kept[image]) {
            return STATE;
        }
        standing.copy(images[image]);
        history.forgetAll();
        return standing.tonight;
    }

    public int count(int what) {
        switch (what) {
            case 0: return told.farmers;
            case 1: return told.strips;
            case 2: return told.phase;
            case 3: return told.easter;
            case 4: return cutList.size;
            case 5: return text.length;
            default: return BAD;
        }
    }

    public long trace() {
        return traced;
    }

    // ---- what the calls share

    private boolean isFarmer(int k) {
        return k >= 0 && k < told.farmers;
    }

    private boolean areTwo(int a, int b) {
        return isFarmer(a) && isFarmer(b) && a != b;
    }

    private boolean isStrip(int s) {
        return s >= 0 && s < told.strips;
    }

    private static boolean isNight(int n) {
        return n >= 0 && n <= LAST_NIGHT;
    }

    private static boolean isImage(int image) {
        return image >= 0 && image < IMAGES;
    }

    private int doneStrips() {
        int bits = 0;
        for (int s = 0; s < told.strips; s++) {
            if (standing.left[s] == 0) {
                bits |= 1 << s;
            }
        }
        return bits;
    }

    private int quartersOfAll() {
        int sum = 0;
        for (int k = 0; k < told.farmers; k++) {
            sum += standing.quarters[k];
        }
        return sum;
    }

    private int fullNights() {
        int full = 0;
        for (int n = standing.tonight; n < told.easter; n++) {
            if (!told.clouds[n] && told.moon(n) == 4) {
                full++;
            }
        }
        return full;
    }

    private int leastQuarters(int k, int s) {
        return almanac.quartersFor(told, standing.tonight, told.oxen[k], standing.left[s]);
    }

    private int needOf(int k) {
        int sum = 0;
        for (int s = 0; s < told.strips; s++) {
            if (standing.owners[s] == k) {
                int quarters = leastQuarters(k, s);
                if (quarters == NONE) {
                    return NONE;
                }
                sum += quarters;
            }
        }
        return sum;
    }

    /** Below 0 is a lack, above 0 what is left over; 0 keeps a farmer out of every match. */
    private void weighFreeFarmers() {
        for (int k = 0; k < told.farmers; k++) {
            int needed = standing.free(k) ? needOf(k) : NONE;
            balance[k] = needed == NONE ? 0 : standing.quarters[k] - needed;
        }
    }

    /** The lower number of a mean is 10 ahead of shortening, so only 10, 5 and 2 can shorten it. */
    private static int sharedWithTen(int upper) {
        if (upper % 10 == 0) {
            return 10;
        }
        if (upper % 5 == 0) {
            return 5;
        }
        return upper % 2 == 0 ? 2 : 1;
    }

    private int asStrip(int s) {
        traced += 1;
        return standing.left[s];
    }

    private int asClay(int s) {
        traced += 10;
        return asStrip(s) + told.moon(standing.tonight);
    }

    private int asSand(int s) {
        traced += 100;
        return asStrip(s) - told.oxen[standing.owners[s]];
    }

    private int asMarsh(int s) {
        traced += 1000;
        return 2 * asClay(s);
    }

    private int asHill(int s) {
        traced += 10000;
        return asSand(s) + s;
    }

    private int asMoor(int s) {
        traced += 100000;
        return asStrip(s) + standing.tonight;
    }

    /** What the text tells; nothing of it changes till it is read anew. */
    private static final class Parish {
        final int[] quarters = new int[MOST_FARMERS];
        final int[] oxen = new int[MOST_FARMERS];
        final int[] owners = new int[MOST_STRIPS];
        final int[] furrows = new int[MOST_STRIPS];
        final boolean[] clouds = new boolean[LAST_NIGHT + 1];
        int farmers;
        int strips;
        int phase;
        int easter = FIRST_EASTER;
        boolean phaseTold;
        boolean easterTold;

        void empty() {
            farmers = 0;
            strips = 0;
            phase = 0;
            easter = FIRST_EASTER;
            phaseTold = false;
            easterTold = false;
            for (int n = 0; n <= LAST_NIGHT; n++) {
                clouds[n] = false;
            }
        }

        int moon(int n) {
            int r = (n + phase) % 16;
            return r <= 8 ? r / 2 : (16 - r) / 2;
        }
    }

    /** The text; it is read into a parish token by token, and the place of the token that stops it is the fault. */
    private static final class Text {
        private static final int END = -1, NUMBER = -2, WRONG = -3;
        private static final int MOST_NUMBER = 99;

        private final char[] letters = new char[MOST_LETTERS];
        int length;
        private int at;
        private int token;
        private int place;
        private int value;

        boolean add(char letter) {
            if (length >= MOST_LETTERS) {
                return false;
            }
            letters[length] = letter;
            length++;
            return true;
        }

        int read(Parish into) {
            at = 0;
            into.empty();
            advance();
            int items = 0;
            // An item has more than one letter, so there are fewer of them than letters.
            while (items <= length && token != END) {
                if (!readItem(into)) {
                    return FAULT_BASE - place;
                }
                items++;
            }
            return items;
        }

        private boolean readItem(Parish into) {
            switch (token) {
                case 'f': return readFarmer(into);
                case 's': return readStrip(into);
                case 'c': return readCloud(into);
                case 'm': return readPhase(into);
                case 'e': return readEaster(into);
                default: return false;
            }
        }

        private boolean readFarmer(Parish into) {
            int k = into.farmers;
            if (k >= MOST_FARMERS) {
                return false;
            }
            advance();
            if (!readNumber(0, MOST_NUMBER)) {
                return false;
            }
            into.quarters[k] = value;
            advance();
            if (!readNumber(1, 4)) {
                return false;
            }
            into.oxen[k] = value;
            into.farmers++;
            return readItemEnd();
        }

        private boolean readStrip(Parish into) {
            int s = into.strips;
            if (s >= MOST_STRIPS) {
                return false;
            }
            advance();
            if (!readNumber(0, into.farmers - 1)) {
                return false;
            }
            into.owners[s] = value;
            advance();
            if (!readNumber(1, 60)) {
                return false;
            }
            into.furrows[s] = value;
            into.strips++;
            return readItemEnd();
        }

        private boolean readCloud(Parish into) {
            advance();
            if (!readNumber(0, LAST_NIGHT)) {
                return false;
            }
            into.clouds[value] = true;
            return readItemEnd();
        }

        private boolean readPhase(Parish into) {
            if (into.phaseTold) {
                return false;
            }
            advance();
            if (!readNumber(0, 15)) {
                return false;
            }
            into.phase = value;
            into.phaseTold = true;
            return readItemEnd();
        }

        private boolean readEaster(Parish into) {
            if (into.easterTold) {
                return false;
            }
            advance();
            if (!readNumber(1, LAST_EASTER)) {
                return false;
            }
            into.easter = value;
            into.easterTold = true;
            return readItemEnd();
        }

        private boolean readNumber(int low, int high) {
            return token == NUMBER && value >= low && value <= high;
        }

        private boolean readItemEnd() {
            advance();
            if (token != ';') {
                return false;
            }
            advance();
            return true;
        }

        /** Any letter but a digit is a token of its own; one that is none of the document's fits nowhere. */
        private void advance() {
            while (at < length && letters[at] == ' ') {
                at++;
            }
            place = at;
            if (at >= length) {
                token = END;
            } else if (letters[at] >= '0' && letters[at] <= '9') {
                scanNumber();
            } else {
                token = letters[at];
                at++;
            }
        }

        private void scanNumber() {
            value = 0;
            while (at < length && letters[at] >= '0' && letters[at] <= '9') {
                // A long row of digits must not wrap around into a small number.
                if (value <= MOST_NUMBER) {
                    value = value * 10 + letters[at] - '0';
                }
                at++;
            }
            boolean idleZero = letters[place] == '0' && at - place > 1;
            token = idleZero || value > MOST_NUMBER ? WRONG : NUMBER;
        }
    }

    /**
     * For each night till Easter and each sum of quarters: the fewest nights
     * from that night on whose moons come to that sum. It hangs on the told
     * parish alone, so it is drawn by the first question behind a reading and
     * serves all others.
     */
    private static final class Almanac {
        // 60 furrows by one ox take 60 quarters, and the last night can bring 3 too many.
        private static final int SUMS = 64;
        private static final int OUT_OF_REACH = 1000;

        private final int[] fewest = new int[(LAST_EASTER + 1) * SUMS];
        private final int[] moons = new int[LAST_EASTER];
        private int easter;
        boolean drawn;

        private void draw(Parish told) {
            drawn = true;
            easter = told.easter;
            int last = easter * SUMS;
            for (int sum = 0; sum < SUMS; sum++) {
                fewest[last + sum] = sum == 0 ? 0 : OUT_OF_REACH;
            }
            for (int n = easter - 1; n >= 0; n--) {
                moons[n] = told.clouds[n] ? 0 : told.moon(n);
                int row = n * SUMS;
                for (int sum = 0; sum < SUMS; sum++) {
                    int without = fewest[row + SUMS + sum];
                    fewest[row + sum] = Math.min(without, nightsWith(n, sum));
                }
            }
        }

        /** A night without light is of no use to any set. */
        private int nightsWith(int n, int sum) {
            if (moons[n] == 0 || moons[n] > sum) {
                return OUT_OF_REACH;
            }
            return fewest[(n + 1) * SUMS + sum - moons[n]] + 1;
        }

        int quartersFor(Parish told, int tonight, int oxen, int furrows) {
            if (!drawn) {
                draw(told);
            }
            for (int sum = 0; sum < SUMS; sum++) {
                if (sum * oxen >= furrows && nightsFor(tonight, sum) < OUT_OF_REACH) {
                    return sum;
                }
            }
            return NONE;
        }

        /** Like nightAt, for a sum that quartersFor has found. */
        int nightsFor(int tonight, int sum) {
            return fewest[Math.min(tonight, easter) * SUMS + sum];
        }

        /** Taking each night that can be taken gives the first of all sets that are as small. */
        int nightAt(int tonight, int quarters, int k) {
            int sum = quarters;
            int taken = 0;
            for (int n = tonight; n < easter; n++) {
                if (nightsWith(n, sum) == fewest[n * SUMS + sum]) {
                    if (taken == k) {
                        return n;
                    }
                    taken++;
                    sum -= moons[n];
                }
            }
            return NOT_SO_MANY;
        }
    }

    /** All that the farmers' doings change: what is undone, kept and brought back. */
    private static final class Standing {
        final int[] quarters = new int[MOST_FARMERS];
        final int[] mates = new int[MOST_FARMERS];
        final int[] owners = new int[MOST_STRIPS];
        final int[] left = new int[MOST_STRIPS];
        int tonight;
        int living;
        int ploughed;

        void begin(Parish told) {
            tonight = 0;
            living = (1 << told.farmers) - 1;
            ploughed = 0;
            for (int k = 0; k < MOST_FARMERS; k++) {
                quarters[k] = told.quarters[k];
                mates[k] = NONE;
            }
            for (int s = 0; s < MOST_STRIPS; s++) {
                owners[s] = told.owners[s];
                left[s] = told.furrows[s];
            }
        }

        void copy(Standing other) {
            tonight = other.tonight;
            living = other.living;
            ploughed = other.ploughed;
            for (int k = 0; k < MOST_FARMERS; k++) {
                quarters[k] = other.quarters[k];
                mates[k] = other.mates[k];
            }
            for (int s = 0; s < MOST_STRIPS; s++) {
                owners[s] = other.owners[s];
                left[s] = other.left[s];
            }
        }

        boolean alive(int k) {
            return (living >> k & 1) == 1;
        }

        boolean free(int k) {
            return alive(k) && mates[k] == NONE;
        }

        boolean hasPloughed(int k) {
            return (ploughed >> k & 1) == 1;
        }

        int lowestOther(int k) {
            for (int other = 0; other < MOST_FARMERS; other++) {
                if (other != k && alive(other)) {
                    return other;
                }
            }
            return NONE;
        }

        boolean mayPlough(int k, int s, int moon) {
            boolean his = owners[s] == k || owners[s] == mates[k];
            return his && alive(k) && !hasPloughed(k)
                    && left[s] > 0 && moon >= 1 && quarters[k] >= moon;
        }

        void plough(int k, int s, int moon, int furrows) {
            quarters[k] -= moon;
            left[s] = Math.max(0, left[s] - furrows);
            ploughed |= 1 << k;
        }

        void bury(int k, int lowest, int heir) {
            int half = quarters[k] / 2;
            bequeath(lowest, half);
            bequeath(heir, quarters[k] - half);
            quarters[k] = 0;
            for (int s = 0; s < MOST_STRIPS; s++) {
                if (owners[s] == k) {
                    owners[s] = heir;
                }
            }
            if (mates[k] != NONE) {
                mates[heir] = NONE;
                mates[k] = NONE;
            }
            living &= ~(1 << k);
        }

        private void bequeath(int k, int n) {
            quarters[k] = Math.min(MOST_QUARTERS, quarters[k] + n);
        }
    }

    /** The standings ahead of the latest doings; the oldest gives way to the newest. */
    private static final class History {
        private final Standing[] past = new Standing[MOST_UNDONE];
        private int next;
        int known;

        History() {
            for (int i = 0; i < MOST_UNDONE; i++) {
                past[i] = new Standing();
            }
        }

        void push(Standing standing) {
            past[next].copy(standing);
            next = (next + 1) % MOST_UNDONE;
            known = Math.min(MOST_UNDONE, known + 1);
        }

        boolean pop(Standing standing) {
            if (known == 0) {
                return false;
            }
            next = (next + MOST_UNDONE - 1) % MOST_UNDONE;
            known--;
            standing.copy(past[next]);
            return true;
        }

        void forgetAll() {
            known = 0;
        }
    }

    /** What farmers are said to have cut, in the order of telling. */
    private static final class Cuts {
        final int[] farmers = new int[MOST_CUTS];
        final int[] nights = new int[MOST_CUTS];
        final int[] furrows = new int[MOST_CUTS];
        int size;

        boolean add(int k, int night, int n) {
            if (size >= MOST_CUTS) {
                return false;
            }
            farmers[size] = k;
            nights[size] = night;
            furrows[size] = n;
            size++;
            return true;
        }
    }
}
