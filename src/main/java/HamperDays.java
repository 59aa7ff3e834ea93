/** Days out that are carried up in a hamper: packed, unpacked by the hour, weighed against one another. */
public final class HamperDays {
    public static final int BAD = -1, STATE = -2, FULL = -3, NONE = -4;

    private static final int MOST_THINGS = 7;
    private static final int MOST_SEEN = 6;
    private static final int MOST_BYTES = 160;
    private static final int MOST_CELLS = 40;
    private static final int MOST_IMAGES = 2;
    private static final int MOST_SHEETS = 4;
    private static final int MOST_ORDERED = 5;
    private static final int ORDERS = 120;
    private static final int LONGEST_LOOK = 20;
    private static final int LONGEST_SPAN = 60;
    private static final int GOODS = 10;

    private static final int PLAIN = 0, GLASS = 1, SHOWER = 2, VIEW = 3;
    private static final int KIND = 0, GOOD = 1, WEIGHT = 2;
    private static final int NO_FAULT = 0, NULL = 1, INDEX = 2, CAST = 3, SIZE = 4;

    private final Hamper now = new Hamper();
    // Every question of "what if" is tried out on this one, so that no call makes an object.
    private final Hamper trial = new Hamper();
    private final Seen seen = new Seen();
    private final Tape tape = new Tape();
    private final Image[] images = new Image[MOST_IMAGES];
    private final Sheet[] sheets = new Sheet[MOST_SHEETS];
    private final int[] row = new int[MOST_ORDERED];
    private final int[] bestRow = new int[MOST_ORDERED];
    private final int[] looks = new int[GOODS * (LONGEST_LOOK + 1)];
    private int tornBy = NO_FAULT;

    public HamperDays() {
        for (int k = 0; k < MOST_IMAGES; k++) {
            images[k] = new Image();
        }
        for (int k = 0; k < MOST_SHEETS; k++) {
            sheets[k] = new Sheet();
        }
    }

    // ---- the text

    public int feed(int c) {
        if (!isWithin(c, 0, 127)) {
            return BAD;
        }
        return tape.append(c) ? tape.length : FULL;
    }

    public int end(int n) {
        if (!isWithin(n, 0, tape.length)) {
            return BAD;
        }
        int had = tape.length;
        tape.length = n;
        return had;
    }

    public int text() {
        int lines = tape.tell(trial);
        tape.length = 0;
        if (tape.faultFound != NO_FAULT) {
            return -10 - tape.faultPlace;
        }
        now.copyFrom(trial);
        seen.size = 0;
        for (int k = 0; k < MOST_IMAGES; k++) {
            images[k].made = false;
        }
        return lines;
    }

    public int fault() {
        return tape.faultFound;
    }

    public int rule(int what) {
        switch (what) {
            case 0: return now.size;
            case 1: return now.hour;
            case 2: return now.mood;
            case 3: return now.tire;
            case 4: return now.left;
            case 5: return now.outBits();
            case 6: return now.crushedBits();
            default: return BAD;
        }
    }

    public int thing(int i, int what) {
        if (!isThing(i)) {
            return BAD;
        }
        switch (what) {
            case KIND: return now.kinds[i];
            case GOOD: return now.goods[i];
            case WEIGHT: return now.weights[i];
            case 3: return now.bearsOf(i);
            case 4: return now.weightBehind(i);
            case 5: return 20 + now.cheersOf(i);
            case 6: return now.outFor[i];
            default: return BAD;
        }
    }

    // ---- what is changed

    public int alter(int i, int what, int v) {
        if (!isThing(i) || !isTrait(what, v)) {
            return BAD;
        }
        return now.change(i, what, v);
    }

    public int mood(int v) {
        if (!isMood(v)) {
            return BAD;
        }
        int was = now.mood;
        now.mood = v;
        return was;
    }

    public int tire(int v) {
        if (!isWithin(v, 0, 9)) {
            return BAD;
        }
        int was = now.tire;
        now.tire = v;
        return was;
    }

    public int pack(int kind, int good, int weight) {
        if (!isTrait(KIND, kind) || !isTrait(GOOD, good) || !isTrait(WEIGHT, weight)) {
            return BAD;
        }
        if (!now.isAllIn()) {
            return STATE;
        }
        return now.add(kind, good, weight) ? now.size : FULL;
    }

    public int strap() {
        int were = now.size - now.left;
        now.bringAllIn();
        return were;
    }

    public int lift() {
        if (now.size == 0 || !now.isAllIn()) {
            return STATE;
        }
        now.shrinkTo(now.size - 1);
        return now.size;
    }

    // ---- hours

    public int hours(int n) {
        if (!isWithin(n, 0, 30)) {
            return BAD;
        }
        if (now.hour + n >= 1000) {
            return FULL;
        }
        return now.pass(n);
    }

    public int runs(int n, int what) {
        if (!isSpan(n)) {
            return BAD;
        }
        switch (what) {
            case 0: return moodBehind(n);
            case 1: return utmostMood(n, true);
            case 2: return utmostMood(n, false);
            case 3: return outBehind(n);
            case 4: return firstAtZero(n);
            default: return BAD;
        }
    }

    public int gone(int i) {
        if (!isThing(i)) {
            return BAD;
        }
        if (now.isGone(i)) {
            return STATE;
        }
        startTrial();
        for (int n = 1; n <= LONGEST_SPAN; n++) {
            trial.passOne(false);
            if (trial.isGone(i)) {
                return n;
            }
        }
        return NONE;
    }

    public int glad(int v) {
        if (!isMood(v)) {
            return BAD;
        }
        startTrial();
        for (int n = 0; n < LONGEST_SPAN && trial.mood < v; n++) {
            trial.passOne(false);
        }
        return trial.mood >= v ? trial.hour - now.hour : NONE;
    }

    // ---- what is best

    public int order(int what) {
        if (what != 0 && !isWithin(what, 10, 9 + MOST_ORDERED)) {
            return BAD;
        }
        if (now.size > MOST_ORDERED || !now.isAllIn()) {
            return STATE;
        }
        if (what - 10 >= now.size) {
            return NONE;
        }
        int best = findBestRow();
        return what == 0 ? best : bestRow[what - 10];
    }

    public int leave(int n, int what) {
        return bestOfOne(n, what, false);
    }

    public int top(int n, int what) {
        return bestOfOne(n, what, true);
    }

    public int swap(int n, int what) {
        if (!isSpan(n) || !isWithin(what, 0, 1)) {
            return BAD;
        }
        if (!now.isAllIn()) {
            return STATE;
        }
        int best = moodBehind(n);
        int found = NONE;
        for (int i = 0; i < now.size; i++) {
            for (int j = i + 1; j < now.size; j++) {
                trial.copyFrom(now);
                trial.exchange(i, j);
                int then = trial.pass(n);
                if (then > best) {
                    best = then;
                    found = 10 * i + j;
                }
            }
        }
        return foundOrBest(found, best, what);
    }

    public int need(int i, int n, int v) {
        if (!isThing(i) || !isSpan(n) || !isMood(v)) {
            return BAD;
        }
        for (int good = 0; good < GOODS; good++) {
            if (moodWith(i, GOOD, good, n) >= v) {
                return good;
            }
        }
        return NONE;
    }

    public int kind(int i, int n, int what) {
        if (!isThing(i) || !isSpan(n) || !isWithin(what, 0, 1)) {
            return BAD;
        }
        int best = -1;
        int found = NONE;
        for (int kind = PLAIN; kind <= VIEW; kind++) {
            int then = moodWith(i, KIND, kind, n);
            if (then > best) {
                best = then;
                found = kind;
            }
        }
        return foundOrBest(found, best, what);
    }

    public int bear(int n, int v) {
        if (!isSpan(n) || !isMood(v)) {
            return BAD;
        }
        for (int tire = 9; tire >= 0; tire--) {
            trial.copyFrom(now);
            trial.tire = tire;
            if (trial.pass(n) >= v) {
                return tire;
            }
        }
        return NONE;
    }

    // ---- hours with the lid on

    public long luck(int v, int n, int w, int what) {
        if (!isOdds(v, n) || !isMood(w) || !isWithin(what, 0, 1)) {
            return BAD;
        }
        long good = 0;
        for (int lids = 0; lids < 1 << n; lids++) {
            if (moodUnderLids(lids, n) >= w) {
                good += waysOfLids(lids, v, n);
            }
        }
        return partOfFraction(good, waysOfLids(0, 0, n), what);
    }

    public long mean(int v, int n, int what) {
        if (!isOdds(v, n) || !isWithin(what, 0, 1)) {
            return BAD;
        }
        long sum = 0;
        for (int lids = 0; lids < 1 << n; lids++) {
            sum += waysOfLids(lids, v, n) * moodUnderLids(lids, n);
        }
        return partOfFraction(sum, waysOfLids(0, 0, n), what);
    }

    // ---- from moods

    public int see(int n, int v) {
        if (!isWithin(n, 0, LONGEST_LOOK) || !isMood(v)) {
            return BAD;
        }
        return seen.add(n, v) ? seen.size : FULL;
    }

    public int forget(int n) {
        if (!isWithin(n, 0, seen.size)) {
            return BAD;
        }
        int were = seen.size;
        seen.size = n;
        return were;
    }

    public int kinds(int i) {
        return isThing(i) ? traitsAsSeen(i, KIND, VIEW) : BAD;
    }

    public int goods(int i) {
        return isThing(i) ? traitsAsSeen(i, GOOD, GOODS - 1) : BAD;
    }

    public int ask(int i, int what) {
        if (!isThing(i) || !isWithin(what, 0, 1)) {
            return BAD;
        }
        int may = traitsAsSeen(i, GOOD, GOODS - 1);
        fillLooks(i, may);
        int fewest = Integer.bitCount(may);
        int found = NONE;
        for (int n = 0; n <= LONGEST_LOOK; n++) {
            int worst = mostAlike(n, may);
            if (worst < fewest) {
                fewest = worst;
                found = n;
            }
        }
        return foundOrBest(found, fewest, what);
    }

    // ---- by a seed

    public int drift(int seed, int n, int what) {
        if (!isWithin(n, 1, LONGEST_SPAN) || !isWithin(what, 0, 1)) {
            return BAD;
        }
        if (now.size == 0) {
            return STATE;
        }
        trial.copyFrom(now);
        int s = seed;
        for (int k = 0; k < n; k++) {
            s = s * 1103515245 + 12345;
            trial.blow((s >>> 16) & 0x7fff);
            trial.pass(1);
        }
        return what == 0 ? trial.mood : trial.outBits();
    }

    // ---- images, sheets

    public int keep(int k) {
        if (!isWithin(k, 0, MOST_IMAGES - 1)) {
            return BAD;
        }
        Image image = images[k];
        int was = image.made ? 1 : 0;
        image.things.copyFrom(now);
        image.seen.copyFrom(seen);
        image.made = true;
        return was;
    }

    public int back(int k) {
        if (!isWithin(k, 0, MOST_IMAGES - 1)) {
            return BAD;
        }
        Image image = images[k];
        if (!image.made) {
            return STATE;
        }
        now.copyFrom(image.things);
        seen.copyFrom(image.seen);
        return now.hour;
    }

    public int sheet(int k, int lane, int n) {
        if (!isSheet(k) || !isLane(lane) || n > MOST_CELLS) {
            return BAD;
        }
        if (n < 0) {
            return -10 - SIZE;
        }
        sheets[k].renew(lane, n);
        return 1;
    }

    public int lay(int k, int i, int v) {
        if (!isSheet(k)) {
            return BAD;
        }
        int found = sheets[k].faultAt(i);
        if (found != NO_FAULT) {
            return -10 - found;
        }
        sheets[k].put(i, v);
        return 1;
    }

    public int read(int k, int lane, int f, int n) {
        if (!isSheet(k) || !isLane(lane) || !isWithin(n, 0, 13)) {
            return BAD;
        }
        Sheet from = sheets[k];
        int sizeBefore = now.size;
        int found = NO_FAULT;
        int came = 0;
        for (int i = 0; i < n && found == NO_FAULT; i++) {
            found = from.faultOfThree(lane, f, i);
            if (found == NO_FAULT) {
                int cell = f + 3 * i;
                if (pack(from.cells[cell], from.cells[cell + 1], from.cells[cell + 2]) < 0) {
                    now.shrinkTo(sizeBefore);
                    return -20 - i;
                }
                came++;
            }
        }
        tornBy = found;
        return came;
    }

    public int torn() {
        return tornBy;
    }

    public int count(int what) {
        switch (what) {
            case 0: return seen.size;
            case 1: return imagesMade();
            case 2: return tape.length;
            case 3: return sheets[0].size < 0 ? NONE : sheets[0].size;
            case 4: return now.sumOf(now.goods);
            case 5: return now.sumOf(now.weights);
            default: return BAD;
        }
    }

    // ---- what a number may be

    private static boolean isWithin(int v, int least, int most) {
        return v >= least && v <= most;
    }

    private static boolean isMood(int v) {
        return isWithin(v, 0, 99);
    }

    private static boolean isSpan(int n) {
        return isWithin(n, 0, LONGEST_SPAN);
    }

    private static boolean isOdds(int v, int n) {
        return isWithin(v, 0, 10) && isWithin(n, 0, 8);
    }

    private static boolean isSheet(int k) {
        return isWithin(k, 0, MOST_SHEETS - 1);
    }

    private static boolean isLane(int lane) {
        return isWithin(lane, Sheet.BYTES, Sheet.INTS);
    }

    private boolean isThing(int i) {
        return i >= 0 && i < now.size;
    }

    private static boolean isTrait(int what, int v) {
        switch (what) {
            case KIND: return isWithin(v, PLAIN, VIEW);
            case GOOD: return isWithin(v, 0, GOODS - 1);
            case WEIGHT: return isWithin(v, 1, 9);
            default: return false;
        }
    }

    // ---- as it would be from now on

    private void startTrial() {
        trial.copyFrom(now);
        trial.tallyCheers();
    }

    private int moodBehind(int n) {
        trial.copyFrom(now);
        return trial.pass(n);
    }

    private int moodWith(int i, int what, int v, int n) {
        trial.copyFrom(now);
        trial.change(i, what, v);
        return trial.pass(n);
    }

    private int outBehind(int n) {
        trial.copyFrom(now);
        trial.pass(n);
        return trial.outBits();
    }

    private int utmostMood(int n, boolean greatest) {
        startTrial();
        int utmost = trial.mood;
        for (int k = 0; k < n; k++) {
            trial.passOne(false);
            utmost = greatest ? Math.max(utmost, trial.mood) : Math.min(utmost, trial.mood);
        }
        return utmost;
    }

    private int firstAtZero(int n) {
        startTrial();
        for (int k = 0; k < n && trial.mood > 0; k++) {
            trial.passOne(false);
        }
        return trial.mood == 0 ? trial.hour - now.hour : NONE;
    }

    // One THING is laid on top, or else left out.
    private int bestOfOne(int n, int what, boolean onTop) {
        if (!isSpan(n) || !isWithin(what, 0, 1)) {
            return BAD;
        }
        if (!now.isAllIn()) {
            return STATE;
        }
        int best = moodBehind(n);
        int found = NONE;
        for (int i = 0; i < now.size; i++) {
            trial.copyFrom(now);
            if (onTop) {
                trial.layOnTop(i);
            } else {
                trial.takeAway(i);
            }
            int then = trial.pass(n);
            if (then > best) {
                best = then;
                found = i;
            }
        }
        return foundOrBest(found, best, what);
    }

    private static int foundOrBest(int found, int best, int what) {
        return what == 0 || found == NONE ? found : best;
    }

    // ---- orders, the first by its row first

    private int findBestRow() {
        int n = now.size;
        for (int i = 0; i < n; i++) {
            row[i] = i;
        }
        int best = -1;
        boolean more = true;
        for (int k = 0; k < ORDERS && more; k++) {
            trial.copyOrdered(now, row);
            int then = trial.pass(10);
            if (then > best) {
                best = then;
                System.arraycopy(row, 0, bestRow, 0, n);
            }
            more = stepRow(n);
        }
        return best;
    }

    private boolean stepRow(int n) {
        int i = n - 2;
        while (i >= 0 && row[i] > row[i + 1]) {
            i--;
        }
        if (i < 0) {
            return false;
        }
        int j = n - 1;
        while (j > i + 1 && row[j] < row[i]) {
            j--;
        }
        exchangeInRow(i, j);
        for (int a = i + 1, b = n - 1; a < b; a++, b--) {
            exchangeInRow(a, b);
        }
        return true;
    }

    private void exchangeInRow(int i, int j) {
        int held = row[i];
        row[i] = row[j];
        row[j] = held;
    }

    // ---- lids: bit k of a set tells whether the lid is on in HOUR k

    private int moodUnderLids(int lids, int n) {
        startTrial();
        for (int k = 0; k < n; k++) {
            trial.passOne((lids >> k & 1) == 1);
        }
        return trial.mood;
    }

    private static long waysOfLids(int lids, int v, int n) {
        long ways = 1;
        for (int k = 0; k < n; k++) {
            ways *= (lids >> k & 1) == 1 ? v : 10 - v;
        }
        return ways;
    }

    private static long partOfFraction(long up, long down, int what) {
        long a = down;
        long b = up;
        for (int k = 0; k < 200 && b != 0; k++) {
            long rest = a % b;
            a = b;
            b = rest;
        }
        if (a == 0) {
            return BAD;
        }
        return (what == 0 ? up : down) / a;
    }

    // ---- what is as SEEN

    private int traitsAsSeen(int i, int what, int most) {
        int bits = 0;
        for (int v = 0; v <= most; v++) {
            if (isAsSeen(i, what, v)) {
                bits |= 1 << v;
            }
        }
        return bits;
    }

    private boolean isAsSeen(int i, int what, int v) {
        for (int s = 0; s < seen.size; s++) {
            if (moodWith(i, what, v, seen.behind[s]) != seen.moods[s]) {
                return false;
            }
        }
        return true;
    }

    private void fillLooks(int i, int may) {
        for (int good = 0; good < GOODS; good++) {
            if ((may >> good & 1) == 1) {
                trial.copyFrom(now);
                trial.change(i, GOOD, good);
                trial.tallyCheers();
                for (int n = 0; n <= LONGEST_LOOK; n++) {
                    looks[n * GOODS + good] = trial.mood;
                    trial.passOne(false);
                }
            }
        }
    }

    private int mostAlike(int n, int may) {
        int most = 0;
        for (int good = 0; good < GOODS; good++) {
            if ((may >> good & 1) == 1) {
                most = Math.max(most, alikeWith(n, may, good));
            }
        }
        return most;
    }

    private int alikeWith(int n, int may, int good) {
        int alike = 0;
        for (int other = 0; other < GOODS; other++) {
            if ((may >> other & 1) == 1 && looks[n * GOODS + other] == looks[n * GOODS + good]) {
                alike++;
            }
        }
        return alike;
    }

    private int imagesMade() {
        int made = 0;
        for (int k = 0; k < MOST_IMAGES; k++) {
            made += images[k].made ? 1 : 0;
        }
        return made;
    }

    /** THINGS by order, with MOOD, TIRE and HOUR. */
    private static final class Hamper {
        final int[] kinds = new int[MOST_THINGS];
        final int[] goods = new int[MOST_THINGS];
        final int[] weights = new int[MOST_THINGS];
        final int[] outFor = new int[MOST_THINGS];
        // What each CHEERS, told once ahead of a span: nothing in an HOUR changes it.
        final int[] cheers = new int[MOST_THINGS];
        int size = 0;
        int left = 0;
        int mood = 30;
        int tire = 1;
        int hour = 0;

        void clear() {
            size = 0;
            left = 0;
            mood = 30;
            tire = 1;
            hour = 0;
        }

        void copyFrom(Hamper from) {
            size = from.size;
            copyDayOf(from);
            for (int i = 0; i < size; i++) {
                copyThing(i, from, i);
            }
        }

        void copyOrdered(Hamper from, int[] places) {
            size = from.size;
            copyDayOf(from);
            for (int i = 0; i < size && i < places.length; i++) {
                copyThing(i, from, places[i]);
            }
        }

        private void copyDayOf(Hamper from) {
            left = from.left;
            mood = from.mood;
            tire = from.tire;
            hour = from.hour;
        }

        private void copyThing(int to, Hamper from, int i) {
            kinds[to] = from.kinds[i];
            goods[to] = from.goods[i];
            weights[to] = from.weights[i];
            outFor[to] = from.outFor[i];
        }

        boolean isAllIn() {
            return left == size;
        }

        boolean isGone(int i) {
            return i >= left && outFor[i] == 0;
        }

        boolean add(int kind, int good, int weight) {
            if (size >= MOST_THINGS) {
                return false;
            }
            kinds[size] = kind;
            goods[size] = good;
            weights[size] = weight;
            outFor[size] = 0;
            size++;
            left = size;
            return true;
        }

        int change(int i, int what, int v) {
            int[] traits = what == KIND ? kinds : what == GOOD ? goods : weights;
            int was = traits[i];
            traits[i] = v;
            return was;
        }

        void bringAllIn() {
            left = size;
            for (int i = 0; i < size; i++) {
                outFor[i] = 0;
            }
        }

        // These four are for a hamper whose THINGS are all IN.

        void shrinkTo(int n) {
            if (n < size) {
                size = n;
                left = n;
            }
        }

        void takeAway(int i) {
            layOnTop(i);
            shrinkTo(size - 1);
        }

        void layOnTop(int i) {
            for (int k = i; k + 1 < size; k++) {
                exchange(k, k + 1);
            }
        }

        void exchange(int i, int j) {
            exchangeIn(kinds, i, j);
            exchangeIn(goods, i, j);
            exchangeIn(weights, i, j);
        }

        private static void exchangeIn(int[] traits, int i, int j) {
            int held = traits[i];
            traits[i] = traits[j];
            traits[j] = held;
        }

        int bearsOf(int i) {
            boolean isFrail = kinds[i] == GLASS || kinds[i] == VIEW;
            return isFrail ? weights[i] : 2 * weights[i];
        }

        int weightBehind(int i) {
            int sum = 0;
            for (int k = i + 1; k < size; k++) {
                sum += weights[k];
            }
            return sum;
        }

        boolean isCrushed(int i) {
            return weightBehind(i) > bearsOf(i);
        }

        int cheersOf(int i) {
            return cheersUnder(i, weightBehind(i));
        }

        private int cheersUnder(int i, int load) {
            int plain = load > bearsOf(i) ? goods[i] / 2 : goods[i];
            switch (kinds[i]) {
                case GLASS: return 2 * plain;
                case SHOWER: return -plain;
                case VIEW: return 2 * plain + 1;
                default: return plain;
            }
        }

        private int lastsOf(int i) {
            switch (kinds[i]) {
                case SHOWER: return 5;
                case VIEW: return 6;
                default: return 3;
            }
        }

        void tallyCheers() {
            int load = 0;
            for (int i = size - 1; i >= 0; i--) {
                cheers[i] = cheersUnder(i, load);
                load += weights[i];
            }
        }

        int pass(int n) {
            tallyCheers();
            for (int k = 0; k < n; k++) {
                passOne(false);
            }
            return mood;
        }

        // tallyCheers() goes ahead of it.
        void passOne(boolean lidOn) {
            if (left > 0 && !lidOn) {
                left--;
                outFor[left] = lastsOf(left);
            }
            int sum = mood - tire;
            for (int i = left; i < size; i++) {
                if (outFor[i] > 0) {
                    sum += cheers[i];
                    outFor[i]--;
                }
            }
            mood = Math.max(0, Math.min(99, sum));
            hour++;
        }

        void blow(int got) {
            if (size == 0) {
                return;
            }
            goods[got % size] = got / 8 % 10;
            if (got / 128 % 4 == 0) {
                bringAllIn();
            }
        }

        int outBits() {
            int bits = 0;
            for (int i = left; i < size; i++) {
                if (outFor[i] > 0) {
                    bits |= 1 << i;
                }
            }
            return bits;
        }

        int crushedBits() {
            int bits = 0;
            for (int i = 0; i < size; i++) {
                if (isCrushed(i)) {
                    bits |= 1 << i;
                }
            }
            return bits;
        }

        int sumOf(int[] traits) {
            int sum = 0;
            for (int i = 0; i < size; i++) {
                sum += traits[i];
            }
            return sum;
        }
    }

    /** What was SEEN: behind how many HOURS, which MOOD. */
    private static final class Seen {
        final int[] behind = new int[MOST_SEEN];
        final int[] moods = new int[MOST_SEEN];
        int size = 0;

        boolean add(int n, int v) {
            if (size >= MOST_SEEN) {
                return false;
            }
            behind[size] = n;
            moods[size] = v;
            size++;
            return true;
        }

        void copyFrom(Seen from) {
            size = from.size;
            System.arraycopy(from.behind, 0, behind, 0, size);
            System.arraycopy(from.moods, 0, moods, 0, size);
        }
    }

    private static final class Image {
        final Hamper things = new Hamper();
        final Seen seen = new Seen();
        boolean made = false;
    }

    /** A row of CELLS; each holds what a cell of its lane would hold. */
    private static final class Sheet {
        static final int BYTES = 0, SHORTS = 1, INTS = 2;
        final int[] cells = new int[MOST_CELLS];
        int lane = BYTES;
        // Below 0: nothing.
        int size = -1;

        void renew(int newLane, int n) {
            lane = newLane;
            size = n;
            for (int i = 0; i < n && i < MOST_CELLS; i++) {
                cells[i] = 0;
            }
        }

        int faultAt(int i) {
            if (size < 0) {
                return NULL;
            }
            return i >= 0 && i < size ? NO_FAULT : INDEX;
        }

        // In the machine's order: nothing passes every cast, and a row is cast ahead of its index.
        int faultOfThree(int asLane, int f, int times) {
            if (size < 0) {
                return NULL;
            }
            if (lane != asLane) {
                return CAST;
            }
            boolean isInside = f >= 0 && f < size && f + 3 * times + 2 < size;
            return isInside ? NO_FAULT : INDEX;
        }

        void put(int i, int v) {
            cells[i] = lane == BYTES ? (byte) v : lane == SHORTS ? (short) v : v;
        }
    }

    /** THE TAPE, and how it is read. */
    private static final class Tape {
        // Sorts of signs; the first four are sorts of TOKENS too.
        private static final int END = 0, NAME = 1, NUMBER = 2, STOP = 3, BLANK = 4, OTHER = 5;
        // What begins a line, beside the KINDS.
        private static final int MOOD = 4, TIRE = 5, UNKNOWN = -1;
        private final byte[] bytes = new byte[MOST_BYTES];
        int length = 0;
        int faultFound = NO_FAULT;
        int faultPlace = 0;
        private int place = 0;
        private int start = 0;
        private int token = END;
        private int number = 0;
        private boolean moodTold = false;
        private boolean tireTold = false;

        boolean append(int c) {
            if (length >= MOST_BYTES) {
                return false;
            }
            bytes[length] = (byte) c;
            length++;
            return true;
        }

        /** How many lines, told into a hamper; or faultFound is not 0. */
        int tell(Hamper into) {
            into.clear();
            faultFound = NO_FAULT;
            place = 0;
            moodTold = false;
            tireTold = false;
            int lines = 0;
            while (lines <= MOST_BYTES && takeToken() && token != END && takeLine(into)) {
                lines++;
            }
            return lines;
        }

        private boolean refuse(int why) {
            faultFound = why;
            faultPlace = start;
            return false;
        }

        private boolean takeLine(Hamper into) {
            int word = token == NAME ? wordTaken() : UNKNOWN;
            switch (word) {
                case UNKNOWN: return refuse(2);
                case MOOD: return takeMood(into);
                case TIRE: return takeTire(into);
                default: return takeThing(into, word);
            }
        }

        private boolean takeMood(Hamper into) {
            if (moodTold) {
                return refuse(4);
            }
            moodTold = true;
            if (!takeNumber(0, 99)) {
                return false;
            }
            into.mood = number;
            return takeStop();
        }

        private boolean takeTire(Hamper into) {
            if (tireTold) {
                return refuse(4);
            }
            tireTold = true;
            if (!takeNumber(0, 9)) {
                return false;
            }
            into.tire = number;
            return takeStop();
        }

        private boolean takeThing(Hamper into, int kind) {
            if (into.size >= MOST_THINGS) {
                return refuse(5);
            }
            if (!takeNumber(0, 9)) {
                return false;
            }
            int good = number;
            return takeNumber(1, 9) && takeStop() && into.add(kind, good, number);
        }

        private boolean takeNumber(int least, int most) {
            if (!takeToken()) {
                return false;
            }
            if (token != NUMBER) {
                return refuse(2);
            }
            return isWithin(number, least, most) || refuse(3);
        }

        private boolean takeStop() {
            return takeToken() && (token == STOP || refuse(2));
        }

        private boolean takeToken() {
            while (place < length && sortAt(place) == BLANK) {
                place++;
            }
            start = place;
            token = sortAt(place);
            if (token == OTHER) {
                return refuse(1);
            }
            if (token == STOP) {
                place++;
                return true;
            }
            while (place < length && sortAt(place) == token) {
                place++;
            }
            return token != NUMBER || tellNumber();
        }

        private boolean tellNumber() {
            if (place - start > 2) {
                return refuse(1);
            }
            number = 0;
            for (int at = start; at < place; at++) {
                number = 10 * number + bytes[at] - '0';
            }
            return true;
        }

        private int sortAt(int at) {
            if (at >= length) {
                return END;
            }
            int c = bytes[at];
            if (c >= 'a' && c <= 'z') {
                return NAME;
            }
            if (c >= '0' && c <= '9') {
                return NUMBER;
            }
            return c == ';' ? STOP : c == ' ' ? BLANK : OTHER;
        }

        private int wordTaken() {
            if (isWord("plain")) {
                return PLAIN;
            }
            if (isWord("glass")) {
                return GLASS;
            }
            if (isWord("shower")) {
                return SHOWER;
            }
            if (isWord("view")) {
                return VIEW;
            }
            if (isWord("mood")) {
                return MOOD;
            }
            return isWord("tire") ? TIRE : UNKNOWN;
        }

        private boolean isWord(String word) {
            if (place - start != word.length()) {
                return false;
            }
            for (int k = 0; k < word.length(); k++) {
                if (bytes[start + k] != word.charAt(k)) {
                    return false;
                }
            }
            return true;
        }
    }
}
