/**
 * A rope of vows: yarns told in a text, laid to three strands, pulled and worn.
 * All arrays are made with the object, and used again: only image() makes more, at most twice.
 */
public final class VowRope {
    public static final int NONE = -1000000, BAD = -1000001, STATE = -1000002, FULL = -1000003;

    private static final int FINDINGS = -1000010, FAULT_PLACES = -1000100;
    private static final int NULL = 1, PLACE = 2, KIND = 3, SIZE = 4, STORE = 5;

    private static final int MOST_SPEAKERS = 5, MOST_YARNS = 9, STRANDS = 3, LOOSE = -1;
    private static final int DOUBTED = 0, KEPT = 1, BROKEN = 2;
    private static final int MOST_LOAD = 9999, MOST_SEED = 999999, IMAGES = 2;

    private final Rows rows = new Rows();
    private final Reader reader = new Reader();
    private final Walk now = new Walk();
    private final Walk spare = new Walk();
    // an image that was not kept yet is null
    private final Walk[] images = new Walk[IMAGES];
    private final Acts acts = new Acts();
    private final Best bestLaying = new Best();
    private final Cheapest cheapestSet = new Cheapest();
    private final Odds yearOdds = new Odds();
    private final Asks asks = new Asks();
    private int latestFault = 0;
    private int latestFinding = 0;

    public VowRope() {
    }

    // ---- rows

    public int row(int row, int lane, int n) {
        if (!rows.isNumber(row) || lane < 0 || lane > Rows.INTS || n > Rows.MOST_ITEMS) {
            return BAD;
        }
        if (n < 0) {
            return found(SIZE);
        }
        rows.make(row, lane, n);
        return foundNothing(n);
    }

    public int set(int row, int i, int v) {
        if (!rows.isNumber(row)) {
            return BAD;
        }
        if (rows.isMissing(row)) {
            return found(NULL);
        }
        if (!rows.hasPlaces(row, i, 1)) {
            return found(PLACE);
        }
        return foundNothing(rows.put(row, i, v));
    }

    public int copy(int a, int i, int b, int j, int n) {
        if (!rows.isNumber(a) || !rows.isNumber(b)) {
            return BAD;
        }
        if (rows.isMissing(a) || rows.isMissing(b)) {
            return found(NULL);
        }
        if (rows.laneOf(a) != rows.laneOf(b)) {
            return found(STORE);
        }
        if (!rows.hasPlaces(a, i, n) || !rows.hasPlaces(b, j, n)) {
            return found(PLACE);
        }
        rows.move(a, i, b, j, n);
        return foundNothing(n);
    }

    public int drop(int row) {
        if (!rows.isNumber(row)) {
            return BAD;
        }
        if (rows.isMissing(row)) {
            return found(NULL);
        }
        int had = rows.sizeOf(row);
        rows.remove(row);
        return foundNothing(had);
    }

    // ---- walks, acts

    public int feed(long w, int n) {
        if (n < 1 || n > 8) {
            return BAD;
        }
        if (!reader.tape.hasRoom(n)) {
            return FULL;
        }
        for (int k = n - 1; k >= 0; k--) {
            reader.tape.add((byte) (w >> (8 * k)));
        }
        return reader.tape.length;
    }

    public int walk() {
        reader.readInto(spare);
        reader.tape.length = 0;
        if (reader.found != 0) {
            latestFault = reader.found;
            return FAULT_PLACES - reader.tape.start;
        }
        now.becomeAs(spare);
        acts.forgetAll();
        return now.yarns;
    }

    public int fault() {
        return latestFault;
    }

    public int lay(int yarn, int strand) {
        if (!now.hasYarn(yarn) || strand < LOOSE || strand >= STRANDS) {
            return BAD;
        }
        acts.keep(now);
        int was = now.state[Walk.STRAND + yarn];
        now.state[Walk.STRAND + yarn] = strand;
        return was;
    }

    public int pitch(int yarn) {
        if (!now.hasYarn(yarn)) {
            return BAD;
        }
        if (now.state[Walk.PITCHED + yarn] != 0) {
            return STATE;
        }
        acts.keep(now);
        now.state[Walk.PITCHED + yarn] = 1;
        return now.strength(yarn);
    }

    public int vow(int yarn, int how) {
        if (!now.hasYarn(yarn) || how < DOUBTED || how > BROKEN) {
            return BAD;
        }
        acts.keep(now);
        int was = now.state[Walk.VOW + yarn];
        now.state[Walk.VOW + yarn] = how;
        return was;
    }

    public int splice(int yarn) {
        if (!now.hasYarn(yarn)) {
            return BAD;
        }
        acts.keep(now);
        int was = now.state[Walk.WORN + yarn];
        now.state[Walk.WORN + yarn] = 0;
        return was;
    }

    public int pull(int load, int seed) {
        if (!now.told) {
            return STATE;
        }
        if (!isLoad(load) || !isSeed(seed)) {
            return BAD;
        }
        acts.keep(now);
        if (load + nextX(seed) % 10 > now.ropeBears()) {
            int weakest = now.weakestStrand();
            now.part(weakest);
            return weakest;
        }
        now.wearLaid();
        return NONE;
    }

    public int year(int seed) {
        if (!now.told) {
            return STATE;
        }
        if (!isSeed(seed)) {
            return BAD;
        }
        acts.keep(now);
        int broken = 0;
        int x = seed;
        for (int y = 0; y < now.yarns; y++) {
            if (now.state[Walk.VOW + y] == DOUBTED) {
                boolean keeps = now.sort[y] == Kinds.OATH;
                if (now.isDrawn(y)) {
                    x = nextX(x);
                    keeps = x % 10 < now.keptInTen(y);
                }
                now.state[Walk.VOW + y] = keeps ? KEPT : BROKEN;
                broken |= keeps ? 0 : 1 << y;
            }
        }
        return broken;
    }

    public int undo() {
        if (acts.kept == 0) {
            return STATE;
        }
        acts.takeBack(now);
        return acts.kept;
    }

    public int yarn(int yarn, int what) {
        if (!now.hasYarn(yarn)) {
            return BAD;
        }
        switch (what) {
            case 0: return now.speaker[yarn];
            case 1: return now.fathom[yarn];
            case 2: return now.strength(yarn);
            case 3: return now.state[Walk.STRAND + yarn];
            case 4: return now.state[Walk.VOW + yarn];
            case 5: return now.state[Walk.WORN + yarn];
            case 6: return now.state[Walk.PITCHED + yarn];
            default: return BAD;
        }
    }

    public int bears(int strand) {
        if (!now.told) {
            return STATE;
        }
        if (strand < 0 || strand > STRANDS) {
            return BAD;
        }
        return strand == STRANDS ? now.ropeBears() : now.strandBears(strand);
    }

    // ---- foretold

    public int best(int k) {
        if (!now.told) {
            return STATE;
        }
        if (k != -1 && !now.hasYarn(k)) {
            return BAD;
        }
        bestLaying.search(now);
        return k == -1 ? STRANDS * bestLaying.least : bestLaying.strands[k];
    }

    public int cheapest(int load, int what) {
        if (!now.told) {
            return STATE;
        }
        if (!isLoad(load) || what < 0 || what > 1) {
            return BAD;
        }
        int some = cheapestSet.search(now, load);
        if (some < 0) {
            return NONE;
        }
        return what == 0 ? now.priceOf(some) : some;
    }

    public int odds(int load, int what) {
        if (!now.told) {
            return STATE;
        }
        if (!isLoad(load) || what < 0 || what > 1) {
            return BAD;
        }
        yearOdds.reckon(now, load);
        return what == 0 ? yearOdds.above : yearOdds.below;
    }

    public int risk(int row, int i, int n) {
        if (!now.told) {
            return STATE;
        }
        if (!rows.isNumber(row) || n < 1 || n > Rows.MOST_ITEMS) {
            return BAD;
        }
        if (rows.isMissing(row)) {
            return found(NULL);
        }
        if (!rows.hasPlaces(row, i, n)) {
            return found(PLACE);
        }
        if (rows.hasBelowZero(row, i, n)) {
            return BAD;
        }
        return foundNothing(rows.countUpTo(row, i, n, now.ropeBears()));
    }

    public int whose(int bore, int parted) {
        if (!now.told) {
            return STATE;
        }
        if (!isLoad(bore) || !isLoad(parted) || parted <= bore) {
            return BAD;
        }
        int some = 0;
        for (int y = 0; y < now.yarns; y++) {
            if (now.isLaid(y) && now.state[Walk.VOW + y] != BROKEN) {
                int left = now.ropeBearsWithout(y);
                some |= left >= bore && left < parted ? 1 << y : 0;
            }
        }
        return some;
    }

    public int geese(int some) {
        if (!now.told) {
            return STATE;
        }
        if (some <= 0 || some >= 1 << now.yarns) {
            return BAD;
        }
        // a test tells two halves apart, and no test tells more
        int tests = 0;
        while (tests < MOST_YARNS && 1 << tests < Integer.bitCount(some)) {
            tests++;
        }
        return tests;
    }

    public int fathoms(int speaker) {
        if (speaker < 0 || speaker >= now.speakers) {
            return BAD;
        }
        int sum = 0;
        for (int y = 0; y < now.yarns; y++) {
            if (now.speaker[y] == speaker && now.state[Walk.VOW + y] == KEPT) {
                sum += now.fathom[y];
            }
        }
        return sum;
    }

    public int image(int k) {
        if (k < 0 || k >= IMAGES) {
            return BAD;
        }
        if (!now.told) {
            return STATE;
        }
        Walk kept = images[k];
        if (kept == null) {
            kept = new Walk();
            images[k] = kept;
        }
        kept.becomeAs(now);
        return 1;
    }

    public int restore(int k) {
        if (k < 0 || k >= IMAGES) {
            return BAD;
        }
        Walk kept = images[k];
        if (kept == null) {
            return STATE;
        }
        now.becomeAs(kept);
        acts.forgetAll();
        return 1;
    }

    // ---- asked

    public int kind(int yarn) {
        return now.hasYarn(yarn) ? now.sort[yarn] : BAD;
    }

    public int as(int yarn, int kind) {
        if (!now.hasYarn(yarn) || kind < Kinds.YARN || kind > Kinds.HOPE) {
            return BAD;
        }
        return Kinds.isOne(now.sort[yarn], kind) ? foundNothing(yarn) : found(KIND);
    }

    public int ask(int yarn, int what) {
        if (!now.hasYarn(yarn) || what < 0 || what > 1) {
            return BAD;
        }
        return asks.answer(now, yarn, what);
    }

    public int trace(int i) {
        return i >= 0 && i < asks.traced ? asks.begun[i] : NONE;
    }

    public int count(int what) {
        switch (what) {
            case 0: return rows.howMany();
            case 1: return now.speakers;
            case 2: return now.yarns;
            case 3: return now.laidYarns();
            case 4: return acts.kept;
            case 5: return now.brokenVows();
            case 6: return reader.tape.length;
            default: return BAD;
        }
    }

    public int status() {
        return latestFinding;
    }

    private int found(int number) {
        latestFinding = number;
        return FINDINGS - number;
    }

    private int foundNothing(int answer) {
        latestFinding = 0;
        return answer;
    }

    private static boolean isLoad(int load) {
        return load >= 0 && load <= MOST_LOAD;
    }

    private static boolean isSeed(int seed) {
        return seed >= 1 && seed <= MOST_SEED;
    }

    private static int nextX(int x) {
        return (int) (x * 16807L % 2147483647L);
    }

    /** ROWS of numbers; the items of all of them lie in one array. */
    private static final class Rows {
        static final int MOST_ROWS = 8, MOST_ITEMS = 40;
        static final int BYTES = 0, SHORTS = 1, INTS = 2;
        private static final int MISSING = -1;

        private final int[] lanes = new int[MOST_ROWS];
        private final int[] sizes = new int[MOST_ROWS];
        private final int[] items = new int[MOST_ROWS * MOST_ITEMS];

        Rows() {
            for (int r = 0; r < MOST_ROWS; r++) {
                sizes[r] = MISSING;
            }
        }

        boolean isNumber(int r) {
            return r >= 0 && r < MOST_ROWS;
        }

        boolean isMissing(int r) {
            return sizes[r] == MISSING;
        }

        int laneOf(int r) {
            return lanes[r];
        }

        int sizeOf(int r) {
            return sizes[r];
        }

        boolean hasPlaces(int r, int i, int n) {
            return i >= 0 && n >= 0 && i <= sizes[r] - n;
        }

        void make(int r, int lane, int n) {
            lanes[r] = lane;
            sizes[r] = n;
            for (int i = 0; i < n; i++) {
                items[r * MOST_ITEMS + i] = 0;
            }
        }

        void remove(int r) {
            sizes[r] = MISSING;
        }

        int put(int r, int i, int v) {
            int cut = lanes[r] == BYTES ? (byte) v : lanes[r] == SHORTS ? (short) v : v;
            items[r * MOST_ITEMS + i] = cut;
            return cut;
        }

        void move(int a, int i, int b, int j, int n) {
            System.arraycopy(items, a * MOST_ITEMS + i, items, b * MOST_ITEMS + j, n);
        }

        boolean hasBelowZero(int r, int i, int n) {
            for (int k = 0; k < n; k++) {
                if (items[r * MOST_ITEMS + i + k] < 0) {
                    return true;
                }
            }
            return false;
        }

        int countUpTo(int r, int i, int n, int most) {
            for (int k = 0; k < n; k++) {
                if (items[r * MOST_ITEMS + i + k] > most) {
                    return k;
                }
            }
            return n;
        }

        int howMany() {
            int sum = 0;
            for (int r = 0; r < MOST_ROWS; r++) {
                sum += isMissing(r) ? 0 : 1;
            }
            return sum;
        }
    }

    /** THE TAPE, and the TOKEN that is looked at. */
    private static final class Tape {
        static final int END = 0, NAME = 1, NUMBER = 2, SIGN = 3, NO_TOKEN = 4;
        private static final int MOST_BYTES = 400, MOST_FIGURES = 3;

        private final byte[] bytes = new byte[MOST_BYTES];
        int length = 0;
        int token = END;
        int start = 0;
        int value = 0;
        private int at = 0;

        boolean hasRoom(int n) {
            return length + n <= MOST_BYTES;
        }

        void add(byte b) {
            bytes[length] = b;
            length++;
        }

        void rewind() {
            at = 0;
            next();
        }

        void next() {
            while (at < length && isBlank(bytes[at])) {
                at++;
            }
            start = at;
            if (at >= length) {
                token = END;
            } else if (isLetter(bytes[at])) {
                takeName();
            } else if (isFigure(bytes[at])) {
                takeNumber();
            } else {
                token = bytes[at] == ';' ? SIGN : NO_TOKEN;
                at++;
            }
        }

        boolean isWord(String word) {
            if (token != NAME || at - start != word.length()) {
                return false;
            }
            for (int k = 0; k < word.length(); k++) {
                if (bytes[start + k] != word.charAt(k)) {
                    return false;
                }
            }
            return true;
        }

        private void takeName() {
            token = NAME;
            while (at < length && isLetter(bytes[at])) {
                at++;
            }
        }

        private void takeNumber() {
            value = 0;
            while (at < length && isFigure(bytes[at])) {
                value = value * 10 + bytes[at] - '0';
                at++;
            }
            token = at - start <= MOST_FIGURES ? NUMBER : NO_TOKEN;
        }

        private static boolean isBlank(byte b) {
            return b == 32 || b == 10;
        }

        private static boolean isLetter(byte b) {
            return b >= 'a' && b <= 'z';
        }

        private static boolean isFigure(byte b) {
            return b >= '0' && b <= '9';
        }
    }

    /** Reads the tape by its grammar; behind a FAULT the tape stays at its TOKEN. */
    private static final class Reader {
        private static final int CANNOT_STAND = 1, NOT_AS_TOLD = 2, NO_ROOM = 3;

        final Tape tape = new Tape();
        int found = 0;

        void readInto(Walk to) {
            found = 0;
            to.begin();
            tape.rewind();
            readLaw(to);
            for (int k = 0; k <= MOST_SPEAKERS && found == 0 && tape.isWord("speaker"); k++) {
                readSpeaker(to);
            }
            for (int k = 0; k <= MOST_YARNS && found == 0 && tape.isWord("yarn"); k++) {
                readYarn(to);
            }
            if (found == 0 && tape.token != Tape.END) {
                found = CANNOT_STAND;
            }
        }

        private void readLaw(Walk to) {
            if (!tape.isWord("law")) {
                found = CANNOT_STAND;
                return;
            }
            tape.next();
            to.hemp = takeNumber(1, 50);
            to.tar = takeNumber(0, 20);
            takeSign();
        }

        private void readSpeaker(Walk to) {
            if (to.speakers >= MOST_SPEAKERS) {
                found = NO_ROOM;
                return;
            }
            tape.next();
            to.truth[to.speakers] = takeNumber(0, 10);
            to.price[to.speakers] = takeNumber(0, 99);
            takeSign();
            to.speakers++;
        }

        private void readYarn(Walk to) {
            if (to.yarns >= MOST_YARNS) {
                found = NO_ROOM;
                return;
            }
            tape.next();
            to.sort[to.yarns] = takeSort();
            to.speaker[to.yarns] = takeNumber(0, to.speakers - 1);
            to.fathom[to.yarns] = takeNumber(1, 9);
            takeSign();
            to.yarns++;
        }

        private int takeSort() {
            int sort = tape.isWord("vow") ? Kinds.VOW
                : tape.isWord("oath") ? Kinds.OATH
                : tape.isWord("debt") ? Kinds.DEBT
                : tape.isWord("lie") ? Kinds.LIE
                : tape.isWord("hope") ? Kinds.HOPE : Kinds.YARN;
            if (sort == Kinds.YARN) {
                found = CANNOT_STAND;
            } else {
                tape.next();
            }
            return sort;
        }

        private int takeNumber(int least, int most) {
            if (found != 0) {
                return 0;
            }
            if (tape.token != Tape.NUMBER) {
                found = CANNOT_STAND;
                return 0;
            }
            int value = tape.value;
            if (value < least || value > most) {
                found = NOT_AS_TOLD;
                return 0;
            }
            tape.next();
            return value;
        }

        private void takeSign() {
            if (found != 0) {
                return;
            }
            if (tape.token != Tape.SIGN) {
                found = CANNOT_STAND;
                return;
            }
            tape.next();
        }
    }

    /** A WALK: what was told, and how its YARNS are now. */
    private static final class Walk {
        // what ACTS change lies in one array, so that it is kept and undone as a whole
        static final int STRAND = 0, VOW = MOST_YARNS, WORN = 2 * MOST_YARNS, PITCHED = 3 * MOST_YARNS;
        static final int STATE_SIZE = 4 * MOST_YARNS;

        boolean told = false;
        int hemp = 0;
        int tar = 0;
        int speakers = 0;
        int yarns = 0;
        final int[] truth = new int[MOST_SPEAKERS];
        final int[] price = new int[MOST_SPEAKERS];
        final int[] sort = new int[MOST_YARNS];
        final int[] speaker = new int[MOST_YARNS];
        final int[] fathom = new int[MOST_YARNS];
        final int[] state = new int[STATE_SIZE];

        void begin() {
            told = true;
            speakers = 0;
            yarns = 0;
            for (int y = 0; y < MOST_YARNS; y++) {
                state[STRAND + y] = LOOSE;
                state[VOW + y] = DOUBTED;
                state[WORN + y] = 0;
                state[PITCHED + y] = 0;
            }
        }

        void becomeAs(Walk other) {
            told = other.told;
            hemp = other.hemp;
            tar = other.tar;
            speakers = other.speakers;
            yarns = other.yarns;
            System.arraycopy(other.truth, 0, truth, 0, MOST_SPEAKERS);
            System.arraycopy(other.price, 0, price, 0, MOST_SPEAKERS);
            System.arraycopy(other.sort, 0, sort, 0, MOST_YARNS);
            System.arraycopy(other.speaker, 0, speaker, 0, MOST_YARNS);
            System.arraycopy(other.fathom, 0, fathom, 0, MOST_YARNS);
            System.arraycopy(other.state, 0, state, 0, STATE_SIZE);
        }

        boolean hasYarn(int y) {
            return y >= 0 && y < yarns;
        }

        boolean isLaid(int y) {
            return state[STRAND + y] != LOOSE;
        }

        int strength(int y) {
            return strengthIf(y, state[VOW + y]);
        }

        int strengthIf(int y, int how) {
            if (how == BROKEN) {
                return 0;
            }
            int s = hemp * fathom[y];
            if (sort[y] == Kinds.OATH || sort[y] == Kinds.DEBT) {
                s += s / 2;
            }
            if (sort[y] == Kinds.LIE || sort[y] == Kinds.HOPE) {
                s /= 2;
            }
            if (sort[y] == Kinds.DEBT) {
                s += price[speaker[y]];
            }
            if (state[PITCHED + y] != 0) {
                s += tar;
            }
            if (how == KEPT) {
                s += s / 2;
            }
            return Math.max(0, s - state[WORN + y]);
        }

        int strandBears(int strand) {
            return strandBearsWithout(strand, LOOSE);
        }

        int ropeBears() {
            return ropeBearsWithout(LOOSE);
        }

        int ropeBearsWithout(int without) {
            int least = strandBearsWithout(0, without);
            for (int s = 1; s < STRANDS; s++) {
                least = Math.min(least, strandBearsWithout(s, without));
            }
            return STRANDS * least;
        }

        private int strandBearsWithout(int strand, int without) {
            int sum = 0;
            for (int y = 0; y < yarns; y++) {
                if (state[STRAND + y] == strand && y != without) {
                    sum += strength(y);
                }
            }
            return sum;
        }

        int weakestStrand() {
            int weakest = 0;
            for (int s = 1; s < STRANDS; s++) {
                if (strandBears(s) < strandBears(weakest)) {
                    weakest = s;
                }
            }
            return weakest;
        }

        void part(int strand) {
            for (int y = 0; y < yarns; y++) {
                if (state[STRAND + y] == strand) {
                    state[STRAND + y] = LOOSE;
                    state[WORN + y] += 5;
                }
            }
        }

        void wearLaid() {
            for (int y = 0; y < yarns; y++) {
                state[WORN + y] += isLaid(y) ? 1 : 0;
            }
        }

        boolean isDrawn(int y) {
            return sort[y] != Kinds.OATH && sort[y] != Kinds.LIE;
        }

        /** In how many of ten YEARS the vow is KEPT behind that. */
        int keptInTen(int y) {
            if (state[VOW + y] != DOUBTED) {
                return state[VOW + y] == KEPT ? 10 : 0;
            }
            return sort[y] == Kinds.OATH ? 10 : sort[y] == Kinds.LIE ? 0 : truth[speaker[y]];
        }

        int priceOf(int some) {
            int sum = 0;
            for (int y = 0; y < yarns; y++) {
                sum += (some >> y & 1) * price[speaker[y]] * fathom[y];
            }
            return sum;
        }

        int laidYarns() {
            int sum = 0;
            for (int y = 0; y < yarns; y++) {
                sum += isLaid(y) ? 1 : 0;
            }
            return sum;
        }

        int brokenVows() {
            int sum = 0;
            for (int y = 0; y < yarns; y++) {
                sum += state[VOW + y] == BROKEN ? 1 : 0;
            }
            return sum;
        }
    }

    /** How YARNS were ahead of the latest ACTS: a ring, the oldest of which is forgotten. */
    private static final class Acts {
        private static final int MOST_ACTS = 24;

        private final int[] states = new int[MOST_ACTS * Walk.STATE_SIZE];
        private int nextSlot = 0;
        int kept = 0;

        void forgetAll() {
            kept = 0;
        }

        void keep(Walk walk) {
            System.arraycopy(walk.state, 0, states, nextSlot * Walk.STATE_SIZE, Walk.STATE_SIZE);
            nextSlot = nextSlot == MOST_ACTS - 1 ? 0 : nextSlot + 1;
            kept = Math.min(kept + 1, MOST_ACTS);
        }

        void takeBack(Walk walk) {
            nextSlot = nextSlot == 0 ? MOST_ACTS - 1 : nextSlot - 1;
            kept--;
            System.arraycopy(states, nextSlot * Walk.STATE_SIZE, walk.state, 0, Walk.STATE_SIZE);
        }
    }

    /** BEST: all ways to lay all YARNS, in order, but those that a renaming of STRANDS puts earlier. */
    private static final class Best {
        private final int[] strengths = new int[MOST_YARNS];
        private final int[] behind = new int[MOST_YARNS + 1];
        private final int[] sums = new int[STRANDS];
        private final int[] trial = new int[MOST_YARNS];
        private int yarns = 0;
        final int[] strands = new int[MOST_YARNS];
        int least = 0;

        void search(Walk walk) {
            yarns = walk.yarns;
            least = -1;
            behind[yarns] = 0;
            for (int y = yarns - 1; y >= 0; y--) {
                strengths[y] = walk.strength(y);
                behind[y] = behind[y + 1] + strengths[y];
            }
            for (int s = 0; s < STRANDS; s++) {
                sums[s] = 0;
            }
            layFrom(0, 0);
        }

        private void layFrom(int y, int used) {
            if (missing() > behind[y]) {
                return;
            }
            if (y >= yarns) {
                least = Math.min(sums[0], Math.min(sums[1], sums[2]));
                System.arraycopy(trial, 0, strands, 0, yarns);
                return;
            }
            for (int s = 0; s <= used && s < STRANDS; s++) {
                trial[y] = s;
                sums[s] += strengths[y];
                layFrom(y + 1, s == used ? used + 1 : used);
                sums[s] -= strengths[y];
            }
        }

        /** How much all STRANDS still lack to bear more than the best so far. */
        private int missing() {
            int sum = 0;
            for (int s = 0; s < STRANDS; s++) {
                sum += Math.max(0, least + 1 - sums[s]);
            }
            return sum;
        }
    }

    /** CHEAPEST: for each set of YARNS, how many STRANDS it can fill one behind the other. */
    private static final class Cheapest {
        // full STRANDS times FULL_ONE, and what lies in the next one
        private static final int FULL_ONE = 65536;

        private final int[] strengths = new int[MOST_YARNS];
        private final int[] filled = new int[1 << MOST_YARNS];

        /** The set, or -1. */
        int search(Walk walk, int load) {
            int need = (load + STRANDS - 1) / STRANDS;
            if (need == 0) {
                return 0;
            }
            for (int y = 0; y < walk.yarns; y++) {
                strengths[y] = walk.strength(y);
            }
            int cheapest = -1;
            int price = 0;
            filled[0] = 0;
            for (int some = 1; some < 1 << walk.yarns; some++) {
                filled[some] = fillBest(some, walk.yarns, need);
                if (filled[some] >= STRANDS * FULL_ONE) {
                    int asked = walk.priceOf(some);
                    if (cheapest < 0 || asked < price) {
                        cheapest = some;
                        price = asked;
                    }
                }
            }
            return cheapest;
        }

        /** Tries each YARN as the last one: more in the STRANDS ahead of it is never worse. */
        private int fillBest(int some, int yarns, int need) {
            int most = 0;
            for (int y = 0; y < yarns; y++) {
                if ((some >> y & 1) != 0) {
                    int with = filled[some ^ 1 << y] + strengths[y];
                    if (with % FULL_ONE >= need) {
                        with = with - with % FULL_ONE + FULL_ONE;
                    }
                    most = Math.max(most, with);
                }
            }
            return most;
        }
    }

    /** ODDS: how many of 10 to the power of YARNS years leave a rope that bears the load. */
    private static final class Odds {
        private final int[] sums = new int[STRANDS];
        private int need = 0;
        int above = 0;
        int below = 1;

        void reckon(Walk walk, int load) {
            need = (load + STRANDS - 1) / STRANDS;
            for (int s = 0; s < STRANDS; s++) {
                sums[s] = 0;
            }
            above = yearsFrom(walk, 0);
            below = 1;
            for (int y = 0; y < walk.yarns; y++) {
                below *= 10;
            }
            for (int y = 0; y < walk.yarns; y++) {
                divideByTwo();
                divideByFive();
            }
        }

        private int yearsFrom(Walk walk, int y) {
            if (y >= walk.yarns) {
                return sums[0] >= need && sums[1] >= need && sums[2] >= need ? 1 : 0;
            }
            int strand = walk.state[Walk.STRAND + y];
            if (strand == LOOSE) {
                return 10 * yearsFrom(walk, y + 1);
            }
            int kept = walk.keptInTen(y);
            int years = 0;
            if (kept < 10) {
                years += (10 - kept) * yearsFrom(walk, y + 1);
            }
            if (kept > 0) {
                int strength = walk.strengthIf(y, KEPT);
                sums[strand] += strength;
                years += kept * yearsFrom(walk, y + 1);
                sums[strand] -= strength;
            }
            return years;
        }

        // what is below has no other primes than these two

        private void divideByTwo() {
            if (above % 2 == 0 && below % 2 == 0) {
                above /= 2;
                below /= 2;
            }
        }

        private void divideByFive() {
            if (above % 5 == 0 && below % 5 == 0) {
                above /= 5;
                below /= 5;
            }
        }
    }

    /** KINDS of YARNS, and which of them is also which. */
    private static final class Kinds {
        static final int YARN = 0, VOW = 1, OATH = 2, DEBT = 3, LIE = 4, HOPE = 5;
        private static final int[] ABOVE = {YARN, YARN, VOW, OATH, YARN, LIE};
        private static final int[] SIZE_BODIES = {10, 11, 0, 12, 13, 14};
        private static final int[] MARK_BODIES = {20, 21, 22, 24, 23, 0};

        static boolean isOne(int sort, int kind) {
            int k = sort;
            for (int step = 0; step < HOPE && k != kind; step++) {
                k = ABOVE[k];
            }
            return k == kind;
        }

        static int sizeBody(int sort) {
            return nearest(SIZE_BODIES, sort);
        }

        static int markBody(int sort) {
            return nearest(MARK_BODIES, sort);
        }

        private static int nearest(int[] bodies, int sort) {
            int k = sort;
            for (int step = 0; step < HOPE && bodies[k] == 0; step++) {
                k = ABOVE[k];
            }
            return bodies[k];
        }
    }

    /** ASKS and THE TRACE. */
    private static final class Asks {
        private static final int MOST_TRACED = 16, MOST_DEPTH = 20;

        final int[] begun = new int[MOST_TRACED];
        int traced = 0;

        int answer(Walk walk, int y, int what) {
            traced = 0;
            int sort = walk.sort[y];
            return give(walk, y, what == 0 ? Kinds.sizeBody(sort) : Kinds.markBody(sort), 0);
        }

        private int give(Walk walk, int y, int body, int depth) {
            if (depth > MOST_DEPTH) {
                return 0;
            }
            leave(body);
            int sort = walk.sort[y];
            int d = depth + 1;
            switch (body) {
                case 10: return walk.fathom[y];
                case 11: return give(walk, y, 10, d) + give(walk, y, Kinds.markBody(sort), d);
                case 12: return -give(walk, y, 11, d);
                case 13: return give(walk, y, 10, d) - 100;
                case 14: return give(walk, y, 13, d) * 2;
                case 20: return y;
                case 21: return give(walk, y, 20, d) + walk.speaker[y];
                case 22: return give(walk, y, 21, d) - 1000;
                case 23: return give(walk, y, 20, d) - give(walk, y, Kinds.sizeBody(sort), d);
                case 24: return give(walk, y, 22, d) * 2;
                default: return 0;
            }
        }

        private void leave(int body) {
            if (traced < MOST_TRACED) {
                begun[traced] = body;
                traced++;
            }
        }
    }
}
