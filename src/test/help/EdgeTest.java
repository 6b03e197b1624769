/** What the edge tests share: each due answer stands under the words of the document that ask for it. */
class EdgeTest {
    static final int NONE = -1000000, BAD = -1000001, STATE = -1000002, FULL = -1000003;
    static final int NULL = -1000011, PLACE = -1000012, KIND = -1000013, SIZE = -1000014, STORE = -1000015;
    static final int MIN = Integer.MIN_VALUE, MAX = Integer.MAX_VALUE;

    private static String words = "";
    private static int row = 0;
    private static int sentences = 0;
    private static int wrong = 0;

    static void says(String sentence) {
        words = sentence;
        row = 0;
        sentences++;
    }

    static void due(int want, int got) {
        row++;
        if (got != want) {
            wrong++;
            System.out.println("\"" + words + "\", row " + row + ": answered " + got + ", due is " + want);
        }
    }

    static void end() {
        System.out.println(sentences + " sentences were tried, " + wrong + " answers were wrong");
        if (wrong > 0) {
            System.exit(1);
        }
    }

    /** Eight bytes a call: an object has 512 calls. */
    static void feedText(VowRope x, String text) {
        for (int at = 0; at < text.length(); at += 8) {
            int n = Math.min(8, text.length() - at);
            long w = 0;
            for (int k = 0; k < n; k++) {
                w = w << 8 | text.charAt(at + k);
            }
            x.feed(w, n);
        }
    }

    static int walkOf(VowRope x, String text) {
        feedText(x, text);
        return x.walk();
    }

    static VowRope told(String text) {
        VowRope x = new VowRope();
        if (walkOf(x, text) < 0) {
            throw new IllegalStateException(text);
        }
        return x;
    }

    static String yarns(int n, String what) {
        return ("yarn " + what + ";").repeat(n);
    }

    /** Yarn k goes to the strand that figure k tells; a point leaves it as it is. */
    static void layAll(VowRope x, String strands) {
        for (int k = 0; k < strands.length(); k++) {
            if (strands.charAt(k) != '.') {
                x.lay(k, strands.charAt(k) - '0');
            }
        }
    }
}
