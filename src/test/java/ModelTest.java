import java.math.BigInteger;
import java.util.ArrayList;
import java.util.List;
import java.util.Random;
import java.util.regex.Matcher;
import java.util.regex.Pattern;

/** Runs of drawn calls, compared with a rope that is written again, by trying everything. */
public final class ModelTest {
    private static final String[] CALLS = {"row", "set", "copy", "drop", "feed", "walk", "fault", "lay", "pitch",
        "vow", "splice", "pull", "year", "undo", "yarn", "bears", "best", "cheapest", "odds", "risk", "whose",
        "geese", "fathoms", "image", "restore", "kind", "as", "ask", "trace", "count", "status"};
    private static final int RUNS = 400, CALLS_A_RUN = 500;
    private static final String[] SORTS = {"vow", "oath", "lie", "hope", "debt"};

    private final Random random;
    private final VowRope real = new VowRope();
    private final TriedRope tried = new TriedRope();
    private final List<String> told = new ArrayList<>();
    private int made = 0;

    private ModelTest(long seed) {
        random = new Random(seed);
    }

    public static void main(String[] args) {
        int wrong = 0;
        for (int run = 0; run < RUNS && wrong < 5; run++) {
            wrong += new ModelTest(run).isRight() ? 0 : 1;
        }
        if (wrong > 0) {
            System.exit(1);
        }
    }

    private boolean isRight() {
        boolean right = feedText(true) && make("walk", new int[5], 0);
        while (right && made < CALLS_A_RUN) {
            right = random.nextInt(40) == 0 ? feedText(random.nextInt(3) > 0) && make("walk", new int[5], 0) : drawCall();
        }
        return right;
    }

    private boolean drawCall() {
        String name = CALLS[random.nextInt(CALLS.length)];
        if (name.equals("walk") && random.nextInt(10) > 0 || name.equals("feed") && random.nextInt(10) > 0) {
            name = "lay";
        }
        int[] a = new int[5];
        for (int k = 0; k < 5; k++) {
            a[k] = drawNumber();
        }
        switch (name) {
            case "pull": case "odds": case "cheapest": case "whose":
                a[0] = drawLoad(a[0]);
                a[1] = name.equals("whose") ? a[0] + random.nextInt(300) : drawSmall(a[1]);
                break;
            case "set":
                a[2] = random.nextInt(3) == 0 ? random.nextInt() : random.nextInt(600) - 20;
                break;
            case "row":
                a[2] = random.nextInt(45) - 2;
                break;
            case "copy": case "risk":
                a[name.equals("copy") ? 4 : 2] = random.nextInt(10) == 0 ? drawNumber() : random.nextInt(12);
                break;
            case "geese":
                a[0] = random.nextInt(540) - 5;
                break;
            case "year":
                a[0] = random.nextInt(10) == 0 ? random.nextInt() : random.nextInt(1000010) - 3;
                break;
            default:
                break;
        }
        return make(name, a, random.nextLong());
    }

    private int drawNumber() {
        int how = random.nextInt(60);
        return how == 0 ? random.nextInt() : how == 1 ? Integer.MAX_VALUE : how == 2 ? Integer.MIN_VALUE
            : how < 10 ? random.nextInt(50) - 4 : how < 14 ? -1 : how < 40 ? random.nextInt(3) : random.nextInt(10);
    }

    private int drawLoad(int other) {
        int bears = Math.max(0, tried.bears(3));
        return random.nextInt(30) == 0 ? other : random.nextInt(3) == 0 ? Math.max(0, bears - 12 + random.nextInt(16))
            : random.nextInt(3) == 0 ? random.nextInt(10004) - 2 : random.nextInt(700);
    }

    private int drawSmall(int other) {
        return random.nextInt(20) == 0 ? other : random.nextInt(3);
    }

    private boolean feedText(boolean sound) {
        StringBuilder text = new StringBuilder(drawText());
        for (int k = sound ? 0 : 1 + random.nextInt(2); k > 0 && text.length() > 0; k--) {
            int at = random.nextInt(text.length());
            switch (random.nextInt(4)) {
                case 0: text.deleteCharAt(at); break;
                case 1: text.insert(at, "law;speaker;yarn;vow;0;12; ;\n".charAt(random.nextInt(29))); break;
                case 2: text.setCharAt(at, (char) random.nextInt(256)); break;
                default: text.setLength(at); break;
            }
        }
        String all = text.length() > 400 ? text.substring(0, 400) : text.toString();
        for (int at = 0; at < all.length();) {
            int n = Math.min(1 + random.nextInt(8), all.length() - at);
            long w = random.nextLong();
            for (int k = 0; k < n; k++) {
                w = w << 8 | all.charAt(at + k);
            }
            int[] a = {n, 0, 0, 0, 0};
            if (!make("feed", a, w)) {
                return false;
            }
            at += n;
        }
        return true;
    }

    private String drawText() {
        int hemp = random.nextInt(3) == 0 ? random.nextInt(3) + 1 : random.nextInt(50) + 1;
        StringBuilder text = new StringBuilder("law " + hemp + drawBlank() + random.nextInt(21) + ";");
        int speakers = random.nextInt(12) == 0 ? 6 : random.nextInt(12) == 0 ? 0 : 1 + random.nextInt(5);
        for (int k = 0; k < speakers; k++) {
            text.append("speaker ").append(random.nextInt(11)).append(drawBlank()).append(random.nextInt(100)).append(";");
        }
        int yarns = speakers == 0 ? 0 : random.nextInt(20) == 0 ? 10 : random.nextInt(3) == 0 ? random.nextInt(5) : random.nextInt(10);
        for (int k = 0; k < yarns; k++) {
            text.append("yarn").append(drawBlank()).append(SORTS[random.nextInt(5)]).append(random.nextInt(9) == 0 ? "" : " ")
                .append(random.nextInt(speakers)).append(drawBlank()).append(random.nextInt(9) + 1).append(";");
        }
        return text.toString();
    }

    private String drawBlank() {
        return random.nextInt(10) == 0 ? "\n " : " ";
    }

    private boolean make(String name, int[] a, long w) {
        made++;
        int want = ofTried(name, a, w);
        int got = ofReal(name, a, w);
        told.add(name + " " + a[0] + " " + a[1] + " " + a[2] + " " + a[3] + " " + a[4] + " " + w + " = " + got);
        if (want == got) {
            return true;
        }
        System.out.println(String.join("\n", told));
        System.out.println("due is " + want);
        return false;
    }

    private int ofReal(String name, int[] a, long w) {
        switch (name) {
            case "row": return real.row(a[0], a[1], a[2]);
            case "set": return real.set(a[0], a[1], a[2]);
            case "copy": return real.copy(a[0], a[1], a[2], a[3], a[4]);
            case "drop": return real.drop(a[0]);
            case "feed": return real.feed(w, a[0]);
            case "walk": return real.walk();
            case "fault": return real.fault();
            case "lay": return real.lay(a[0], a[1]);
            case "pitch": return real.pitch(a[0]);
            case "vow": return real.vow(a[0], a[1]);
            case "splice": return real.splice(a[0]);
            case "pull": return real.pull(a[0], a[1]);
            case "year": return real.year(a[0]);
            case "undo": return real.undo();
            case "yarn": return real.yarn(a[0], a[1]);
            case "bears": return real.bears(a[0]);
            case "best": return real.best(a[0]);
            case "cheapest": return real.cheapest(a[0], a[1]);
            case "odds": return real.odds(a[0], a[1]);
            case "risk": return real.risk(a[0], a[1], a[2]);
            case "whose": return real.whose(a[0], a[1]);
            case "geese": return real.geese(a[0]);
            case "fathoms": return real.fathoms(a[0]);
            case "image": return real.image(a[0]);
            case "restore": return real.restore(a[0]);
            case "kind": return real.kind(a[0]);
            case "as": return real.as(a[0], a[1]);
            case "ask": return real.ask(a[0], a[1]);
            case "trace": return real.trace(a[0]);
            case "count": return real.count(a[0]);
            default: return real.status();
        }
    }

    private int ofTried(String name, int[] a, long w) {
        switch (name) {
            case "row": return tried.row(a[0], a[1], a[2]);
            case "set": return tried.set(a[0], a[1], a[2]);
            case "copy": return tried.copy(a[0], a[1], a[2], a[3], a[4]);
            case "drop": return tried.drop(a[0]);
            case "feed": return tried.feed(w, a[0]);
            case "walk": return tried.walk();
            case "fault": return tried.fault;
            case "lay": return tried.lay(a[0], a[1]);
            case "pitch": return tried.pitch(a[0]);
            case "vow": return tried.vow(a[0], a[1]);
            case "splice": return tried.splice(a[0]);
            case "pull": return tried.pull(a[0], a[1]);
            case "year": return tried.year(a[0]);
            case "undo": return tried.undo();
            case "yarn": return tried.yarn(a[0], a[1]);
            case "bears": return tried.bears(a[0]);
            case "best": return tried.best(a[0]);
            case "cheapest": return tried.cheapest(a[0], a[1]);
            case "odds": return tried.odds(a[0], a[1]);
            case "risk": return tried.risk(a[0], a[1], a[2]);
            case "whose": return tried.whose(a[0], a[1]);
            case "geese": return tried.geese(a[0]);
            case "fathoms": return tried.fathoms(a[0]);
            case "image": return tried.image(a[0]);
            case "restore": return tried.restore(a[0]);
            case "kind": return tried.kind(a[0]);
            case "as": return tried.as(a[0], a[1]);
            case "ask": return tried.ask(a[0], a[1]);
            case "trace": return tried.trace(a[0]);
            case "count": return tried.count(a[0]);
            default: return tried.status;
        }
    }
}

/** The document again, with Java's own arrays, classes and exceptions, and no search that is clever. */
final class TriedRope {
    private static final int NONE = -1000000, BAD = -1000001, STATE = -1000002, FULL = -1000003;
    private static final Pattern TOKEN = Pattern.compile("[ \n]*(?:([a-z]+)|([0-9]+)|(;)|(.)|\\z)", Pattern.DOTALL);

    static final class Speaker {
        int truth, price;
    }

    interface Asked {
        List<Integer> trace();
        int number();
        int length();

        default int size() {
            trace().add(10);
            return length();
        }

        default int mark() {
            trace().add(20);
            return number();
        }
    }

    static class Yarn implements Asked, Cloneable {
        String sort;
        int number, speaker, length, strand = -1, vow, worn;
        boolean pitched;
        List<Integer> trace;

        public List<Integer> trace() { return trace; }
        public int number() { return number; }
        public int length() { return length; }

        Yarn twin() {
            try {
                return (Yarn) clone();
            } catch (CloneNotSupportedException e) {
                throw new IllegalStateException(e);
            }
        }
    }

    static class Vow extends Yarn {
        public int size() { trace.add(11); return super.size() + mark(); }
        public int mark() { trace.add(21); return super.mark() + speaker; }
    }

    static class Oath extends Vow {
        public int mark() { trace.add(22); return super.mark() - 1000; }
    }

    static class Debt extends Oath {
        public int size() { trace.add(12); return -super.size(); }
        public int mark() { trace.add(24); return 2 * super.mark(); }
    }

    static class Lie extends Yarn {
        public int size() { trace.add(13); return super.size() - 100; }
        public int mark() { trace.add(23); return super.mark() - size(); }
    }

    static class Hope extends Lie {
        public int size() { trace.add(14); return super.size() * 2; }
    }

    private static final Class<?>[] KINDS = {Yarn.class, Vow.class, Oath.class, Debt.class, Lie.class, Hope.class};

    static final class Story {
        int hemp, pitch;
        List<Speaker> speakers = new ArrayList<>();
        List<Yarn> yarns = new ArrayList<>();

        Story twin() {
            Story s = new Story();
            s.hemp = hemp;
            s.pitch = pitch;
            s.speakers = speakers;
            for (Yarn y : yarns) {
                s.yarns.add(y.twin());
            }
            return s;
        }

        int strength(Yarn y, int how) {
            int s = hemp * y.length;
            switch (y.sort) {
                case "oath": s = s * 3 / 2; break;
                case "debt": s = s * 3 / 2 + speakers.get(y.speaker).price; break;
                case "lie": case "hope": s = s / 2; break;
                default: break;
            }
            s += y.pitched ? pitch : 0;
            s = how == 1 ? s * 3 / 2 : s;
            return how == 2 || s < y.worn ? 0 : s - y.worn;
        }

        int strength(Yarn y) {
            return strength(y, y.vow);
        }

        int strand(int k) {
            return yarns.stream().filter(y -> y.strand == k).mapToInt(this::strength).sum();
        }

        int rope() {
            return 3 * Math.min(strand(0), Math.min(strand(1), strand(2)));
        }
    }

    private final Object[] rows = new Object[8];
    private final List<Integer> tape = new ArrayList<>();
    private final List<Story> past = new ArrayList<>();
    private final Story[] images = new Story[2];
    private final List<Integer> trace = new ArrayList<>();
    private Story story = null;
    int fault = 0;
    int status = 0;

    private int found(int n) { status = n; return -1000010 - n; }
    private int fine(int n) { status = 0; return n; }
    private boolean noRow(int r) { return r < 0 || r > 7; }
    private boolean noYarn(int y) { return story == null || y < 0 || y >= story.yarns.size(); }
    private boolean noLoad(int load) { return load < 0 || load > 9999; }
    private boolean noSeed(int seed) { return seed < 1 || seed > 999999; }

    int row(int r, int lane, int n) {
        if (noRow(r) || lane < 0 || lane > 2 || n > 40) return BAD;
        try {
            rows[r] = lane == 0 ? new byte[n] : lane == 1 ? new short[n] : (Object) new int[n];
            return fine(n);
        } catch (NegativeArraySizeException e) {
            return found(4);
        }
    }

    private static int item(Object row, int i) {
        return row instanceof byte[] b ? b[i] : row instanceof short[] s ? s[i] : ((int[]) row)[i];
    }

    int set(int r, int i, int v) {
        if (noRow(r)) return BAD;
        if (rows[r] == null) return found(1);
        try {
            if (rows[r] instanceof byte[] b) b[i] = (byte) v;
            else if (rows[r] instanceof short[] s) s[i] = (short) v;
            else ((int[]) rows[r])[i] = v;
            return fine(item(rows[r], i));
        } catch (ArrayIndexOutOfBoundsException e) {
            return found(2);
        }
    }

    int copy(int a, int i, int b, int j, int n) {
        if (noRow(a) || noRow(b)) return BAD;
        try {
            System.arraycopy(rows[a], i, rows[b], j, n);
            return fine(n);
        } catch (NullPointerException e) {
            return found(1);
        } catch (ArrayStoreException e) {
            return found(5);
        } catch (IndexOutOfBoundsException e) {
            return found(2);
        }
    }

    int drop(int r) {
        if (noRow(r)) return BAD;
        if (rows[r] == null) return found(1);
        int had = java.lang.reflect.Array.getLength(rows[r]);
        rows[r] = null;
        return fine(had);
    }

    int feed(long w, int n) {
        if (n < 1 || n > 8) return BAD;
        if (tape.size() + n > 400) return FULL;
        byte[] all = BigInteger.valueOf(w).toByteArray();
        for (int k = n; k > 0; k--) {
            tape.add(k <= all.length ? all[all.length - k] & 255 : w < 0 ? 255 : 0);
        }
        return tape.size();
    }

    private static final class Fault extends RuntimeException {
        private static final long serialVersionUID = 1;
        final int number, place;
        Fault(int number, int place) { this.number = number; this.place = place; }
    }

    private List<String> tokens;
    private List<Integer> places;

    int walk() {
        StringBuilder text = new StringBuilder();
        tape.forEach(b -> text.append((char) (int) b));
        tape.clear();
        tokens = new ArrayList<>();
        places = new ArrayList<>();
        Matcher m = TOKEN.matcher(text);
        while (m.lookingAt() && m.end() > m.start()) {
            String token = null;
            for (int g = 1; g <= 4; g++) {
                if (m.group(g) != null) {
                    token = m.group(g);
                    places.add(m.start(g));
                }
            }
            if (token == null) break;
            tokens.add(token);
            m.region(m.end(), text.length());
        }
        tokens.add("");
        places.add(text.length());
        try {
            story = parse();
            past.clear();
            return story.yarns.size();
        } catch (Fault f) {
            fault = f.number;
            return -1000100 - f.place;
        }
    }

    private String take(String shape) {
        if (!tokens.get(0).matches(shape)) throw new Fault(1, places.get(0));
        places.remove(0);
        return tokens.remove(0);
    }

    private int number(int least, int most) {
        int place = places.get(0);
        int n = Integer.parseInt(take("[0-9]{1,3}"));
        if (n < least || n > most) throw new Fault(2, place);
        return n;
    }

    private Story parse() {
        Story s = new Story();
        take("law");
        s.hemp = number(1, 50);
        s.pitch = number(0, 20);
        take(";");
        while (tokens.get(0).equals("speaker")) {
            if (s.speakers.size() == 5) throw new Fault(3, places.get(0));
            take("speaker");
            Speaker p = new Speaker();
            p.truth = number(0, 10);
            p.price = number(0, 99);
            take(";");
            s.speakers.add(p);
        }
        while (tokens.get(0).equals("yarn")) {
            if (s.yarns.size() == 9) throw new Fault(3, places.get(0));
            take("yarn");
            String sort = take("vow|oath|lie|hope|debt");
            Yarn y = sort.equals("vow") ? new Vow() : sort.equals("oath") ? new Oath() : sort.equals("lie") ? new Lie()
                : sort.equals("hope") ? new Hope() : new Debt();
            y.sort = sort;
            y.number = s.yarns.size();
            y.speaker = number(0, s.speakers.size() - 1);
            y.length = number(1, 9);
            y.trace = trace;
            take(";");
            s.yarns.add(y);
        }
        take("");
        return s;
    }

    private void keep() {
        past.add(story.twin());
        if (past.size() > 24) past.remove(0);
    }

    int lay(int y, int strand) {
        if (noYarn(y) || strand < -1 || strand > 2) return BAD;
        keep();
        int was = story.yarns.get(y).strand;
        story.yarns.get(y).strand = strand;
        return was;
    }

    int pitch(int y) {
        if (noYarn(y)) return BAD;
        if (story.yarns.get(y).pitched) return STATE;
        keep();
        story.yarns.get(y).pitched = true;
        return story.strength(story.yarns.get(y));
    }

    int vow(int y, int how) {
        if (noYarn(y) || how < 0 || how > 2) return BAD;
        keep();
        int was = story.yarns.get(y).vow;
        story.yarns.get(y).vow = how;
        return was;
    }

    int splice(int y) {
        if (noYarn(y)) return BAD;
        keep();
        int was = story.yarns.get(y).worn;
        story.yarns.get(y).worn = 0;
        return was;
    }

    private BigInteger x;

    private int draw() {
        x = x.multiply(BigInteger.valueOf(16807)).mod(BigInteger.valueOf(2147483647));
        return x.mod(BigInteger.TEN).intValue();
    }

    int pull(int load, int seed) {
        if (story == null) return STATE;
        if (noLoad(load) || noSeed(seed)) return BAD;
        keep();
        x = BigInteger.valueOf(seed);
        if (load + draw() <= story.rope()) {
            story.yarns.stream().filter(y -> y.strand >= 0).forEach(y -> y.worn++);
            return NONE;
        }
        int parts = 0;
        while (3 * story.strand(parts) != story.rope()) parts++;
        for (Yarn y : story.yarns) {
            if (y.strand == parts) {
                y.strand = -1;
                y.worn += 5;
            }
        }
        return parts;
    }

    int year(int seed) {
        if (story == null) return STATE;
        if (noSeed(seed)) return BAD;
        keep();
        x = BigInteger.valueOf(seed);
        int bits = 0;
        for (Yarn y : story.yarns) {
            if (y.vow != 0) continue;
            if (y.sort.equals("oath")) y.vow = 1;
            else if (y.sort.equals("lie")) y.vow = 2;
            else y.vow = draw() < story.speakers.get(y.speaker).truth ? 1 : 2;
            if (y.vow == 2) bits += 1 << y.number;
        }
        return bits;
    }

    int undo() {
        if (past.isEmpty()) return STATE;
        story = past.remove(past.size() - 1);
        return past.size();
    }

    int yarn(int number, int what) {
        if (noYarn(number) || what < 0 || what > 6) return BAD;
        Yarn y = story.yarns.get(number);
        return new int[] {y.speaker, y.length, story.strength(y), y.strand, y.vow, y.worn, y.pitched ? 1 : 0}[what];
    }

    int bears(int strand) {
        if (story == null) return STATE;
        if (strand < 0 || strand > 3) return BAD;
        return strand == 3 ? story.rope() : story.strand(strand);
    }

    int best(int k) {
        if (story == null) return STATE;
        if (k != -1 && noYarn(k)) return BAD;
        int n = story.yarns.size();
        int most = -1;
        int[] first = null;
        for (int way = 0; way < Math.pow(3, n); way++) {
            int[] strands = new int[n];
            int[] sums = new int[3];
            int rest = way;
            for (int y = n - 1; y >= 0; y--) {
                strands[y] = rest % 3;
                rest /= 3;
                sums[strands[y]] += story.strength(story.yarns.get(y));
            }
            int bears = 3 * Math.min(sums[0], Math.min(sums[1], sums[2]));
            if (bears > most) {
                most = bears;
                first = strands;
            }
        }
        return k == -1 ? most : first[k];
    }

    int cheapest(int load, int what) {
        if (story == null) return STATE;
        if (noLoad(load) || what < 0 || what > 1) return BAD;
        int[] strengths = story.yarns.stream().mapToInt(story::strength).toArray();
        long least = Long.MAX_VALUE;
        for (int way = 0; way < 1 << 2 * story.yarns.size(); way++) {
            int[] sums = new int[4];
            long key = 0;
            for (int y = 0; y < story.yarns.size(); y++) {
                int strand = way >> 2 * y & 3;
                Yarn yarn = story.yarns.get(y);
                sums[strand] += strengths[y];
                key += strand == 3 ? 0 : 1000L * story.speakers.get(yarn.speaker).price * yarn.length + (1 << y);
            }
            if (3 * Math.min(sums[0], Math.min(sums[1], sums[2])) >= load) {
                least = Math.min(least, key);
            }
        }
        return least == Long.MAX_VALUE ? NONE : (int) (what == 0 ? least / 1000 : least % 1000);
    }

    int odds(int load, int what) {
        if (story == null) return STATE;
        if (noLoad(load) || what < 0 || what > 1) return BAD;
        int n = story.yarns.size();
        BigInteger above = BigInteger.ZERO;
        for (int kept = 0; kept < 1 << n; kept++) {
            long weight = 1;
            int[] sums = new int[3];
            for (Yarn y : story.yarns) {
                boolean is = (kept >> y.number & 1) == 1;
                int ten = y.vow == 1 ? 10 : y.vow == 2 ? 0 : y.sort.equals("oath") ? 10 : y.sort.equals("lie") ? 0
                    : story.speakers.get(y.speaker).truth;
                weight *= is ? ten : 10 - ten;
                if (y.strand >= 0) {
                    sums[y.strand] += story.strength(y, is ? 1 : 2);
                }
            }
            if (3 * Math.min(sums[0], Math.min(sums[1], sums[2])) >= load) {
                above = above.add(BigInteger.valueOf(weight));
            }
        }
        BigInteger below = BigInteger.TEN.pow(n);
        return (what == 0 ? above : below).divide(above.gcd(below)).intValueExact();
    }

    int risk(int r, int i, int n) {
        if (story == null) return STATE;
        if (noRow(r) || n < 1 || n > 40) return BAD;
        if (rows[r] == null) return found(1);
        List<Integer> loads = new ArrayList<>();
        for (long k = i; k < (long) i + n; k++) {
            if (k < 0 || k >= java.lang.reflect.Array.getLength(rows[r])) return found(2);
            loads.add(item(rows[r], (int) k));
        }
        if (loads.stream().anyMatch(load -> load < 0)) return BAD;
        return fine((int) loads.stream().takeWhile(load -> load <= story.rope()).count());
    }

    int whose(int bore, int parted) {
        if (story == null) return STATE;
        if (noLoad(bore) || noLoad(parted) || bore >= parted) return BAD;
        int bits = 0;
        for (Yarn y : story.yarns) {
            if (y.strand >= 0 && y.vow != 2) {
                Story other = story.twin();
                other.yarns.get(y.number).vow = 2;
                bits += other.rope() >= bore && parted > other.rope() ? 1 << y.number : 0;
            }
        }
        return bits;
    }

    int geese(int some) {
        if (story == null) return STATE;
        if (some < 1 || some >> story.yarns.size() != 0) return BAD;
        return tests(Integer.bitCount(some));
    }

    private static int tests(int n) {
        if (n == 1) return 0;
        int fewest = 99;
        for (int pulled = 1; pulled < n; pulled++) {
            fewest = Math.min(fewest, 1 + Math.max(tests(pulled), tests(n - pulled)));
        }
        return fewest;
    }

    int fathoms(int speaker) {
        if (story == null || speaker < 0 || speaker >= story.speakers.size()) return BAD;
        return story.yarns.stream().filter(y -> y.speaker == speaker && y.vow == 1).mapToInt(y -> y.length).sum();
    }

    int image(int k) {
        if (k < 0 || k > 1) return BAD;
        if (story == null) return STATE;
        images[k] = story.twin();
        return 1;
    }

    int restore(int k) {
        if (k < 0 || k > 1) return BAD;
        if (images[k] == null) return STATE;
        story = images[k].twin();
        past.clear();
        return 1;
    }

    int kind(int y) {
        return noYarn(y) ? BAD : List.of("", "vow", "oath", "debt", "lie", "hope").indexOf(story.yarns.get(y).sort);
    }

    int as(int y, int kind) {
        if (noYarn(y) || kind < 0 || kind > 5) return BAD;
        try {
            KINDS[kind].cast(story.yarns.get(y));
            return fine(y);
        } catch (ClassCastException e) {
            return found(3);
        }
    }

    int ask(int y, int what) {
        if (noYarn(y) || what < 0 || what > 1) return BAD;
        trace.clear();
        return what == 0 ? story.yarns.get(y).size() : story.yarns.get(y).mark();
    }

    int trace(int i) {
        return i >= 0 && i < Math.min(16, trace.size()) ? trace.get(i) : NONE;
    }

    int count(int what) {
        switch (what) {
            case 0: int n = 0; for (Object r : rows) n += r == null ? 0 : 1; return n;
            case 1: return story == null ? 0 : story.speakers.size();
            case 2: return story == null ? 0 : story.yarns.size();
            case 3: return story == null ? 0 : (int) story.yarns.stream().filter(y -> y.strand >= 0).count();
            case 4: return past.size();
            case 5: return story == null ? 0 : (int) story.yarns.stream().filter(y -> y.vow == 2).count();
            case 6: return tape.size();
            default: return BAD;
        }
    }
}
