/** Edges of STRENGTH, ACTS, PULLS, YEARS and DRAWS: promises 9 to 17. */
public final class ActEdgeTest extends EdgeTest {
    /** HEMP 10: each BEARS 10. */
    private static final String TENS = "law 10 0;speaker 5 5;";
    // the first DRAW of 10 by these SEEDS; 999999 times 16807 goes beyond 32 bits
    private static final int DRAWS_0 = 10, DRAWS_7 = 1, DRAWS_9 = 7, LAST_SEED = 999999, LAST_DRAWS = 4;

    public static void main(String[] args) {
        yarnNumbers();
        strands();
        vows();
        cut();
        zeroAtLeast();
        broken();
        ropes();
        pitched();
        spliced();
        loadsAndSeeds();
        moreThanItBears();
        weakest();
        worn();
        nineYarns();
        yearSeeds();
        truths();
        drawsInOrder();
        acts();
        ring();
        undone();
        asked();
        manyCalls();
        end();
    }

    private static void yarnNumbers() {
        says("YARNS 0 .. 8: BAD, there is no such thing");
        for (int n = 0; n <= 9; n += 3) {
            VowRope x = told("law 1 0;speaker 0 0;" + yarns(n, "vow 0 1"));
            for (int y : new int[] {-1, n, n + 1, MIN, MAX}) {
                due(BAD, x.lay(y, 0));
                due(BAD, x.pitch(y));
                due(BAD, x.vow(y, 0));
                due(BAD, x.splice(y));
                due(BAD, x.yarn(y, 0));
            }
            due(0, x.count(4));
            for (int y = 0; y < n; y += n - 1) {
                due(-1, x.lay(y, 0));
                due(1, x.pitch(y));
                due(0, x.vow(y, 0));
                due(0, x.splice(y));
                due(0, x.yarn(y, 0));
            }
        }
        says("no WALK: no YARN");
        VowRope x = new VowRope();
        due(BAD, x.lay(0, 0));
        due(BAD, x.pitch(0));
        due(BAD, x.vow(0, 0));
        due(BAD, x.splice(0));
        due(BAD, x.yarn(0, 0));
    }

    private static void strands() {
        says("Promise 9: LAID to a STRAND (0 to 2), or LOOSENED (-1): where it was (-1: LOOSE)");
        VowRope x = told(TENS + yarns(2, "vow 0 1"));
        for (int s : new int[] {-2, 3, MIN, MAX}) {
            due(BAD, x.lay(0, s));
            due(-1, x.yarn(0, 3));
        }
        due(-1, x.lay(0, -1));
        due(-1, x.lay(0, 2));
        for (int s : new int[] {-2, 3, MIN, MAX}) {
            due(BAD, x.lay(0, s));
            due(2, x.yarn(0, 3));
        }
        due(2, x.lay(0, 1));
        due(1, x.lay(0, 0));
        due(0, x.lay(0, 0));
        due(10, x.bears(0));
        due(0, x.lay(0, -1));
        due(0, x.bears(0));
        due(-1, x.yarn(1, 3));
        due(6, x.count(4));
    }

    private static void vows() {
        says("Promise 11: told (0 DOUBTED, 1 KEPT, 2 BROKEN): how it was");
        VowRope x = told(TENS + yarns(2, "vow 0 1"));
        for (int how : new int[] {-1, 3, MIN, MAX}) {
            due(BAD, x.vow(0, how));
        }
        due(0, x.count(4));
        due(0, x.vow(0, 0));
        due(0, x.vow(0, 1));
        due(1, x.vow(0, 2));
        due(2, x.vow(0, 2));
        due(BAD, x.vow(0, 3));
        due(2, x.yarn(0, 4));
        due(2, x.vow(0, 0));
        due(0, x.yarn(0, 4));
        due(0, x.yarn(1, 4));
    }

    /** STRENGTHS of a vow, an oath, a debt, a lie, a hope: DOUBTED, PITCHED, KEPT too. */
    private static void dueStrengths(String law, int length, int[] doubted, int[] pitched, int[] kept) {
        StringBuilder text = new StringBuilder(law);
        for (String sort : new String[] {"vow", "oath", "debt", "lie", "hope"}) {
            text.append("yarn ").append(sort).append(" 0 ").append(length).append(";");
        }
        VowRope x = told(text.toString());
        for (int y = 0; y < 5; y++) {
            due(doubted[y], x.yarn(y, 2));
            due(pitched[y], x.pitch(y));
            x.vow(y, 1);
            due(kept[y], x.yarn(y, 2));
        }
    }

    private static void cut() {
        says("half as much more (cut); half of it (cut); half as much more of all that (cut)");
        dueStrengths("law 1 0;speaker 0 0;", 1, new int[] {1, 1, 1, 0, 0}, new int[] {1, 1, 1, 0, 0},
            new int[] {1, 1, 1, 0, 0});
        dueStrengths("law 1 0;speaker 0 5;", 2, new int[] {2, 3, 8, 1, 1}, new int[] {2, 3, 8, 1, 1},
            new int[] {3, 4, 12, 1, 1});
        // PRICE and PITCH are not halved with HEMP times LENGTH, but with all that
        dueStrengths("law 3 3;speaker 0 6;", 1, new int[] {3, 4, 10, 1, 1}, new int[] {6, 7, 13, 4, 4},
            new int[] {9, 10, 19, 6, 6});
        dueStrengths("law 5 1;speaker 0 1;", 3, new int[] {15, 22, 23, 7, 7}, new int[] {16, 23, 24, 8, 8},
            new int[] {24, 34, 36, 12, 12});
        dueStrengths("law 50 20;speaker 0 99;", 9, new int[] {450, 675, 774, 225, 225},
            new int[] {470, 695, 794, 245, 245}, new int[] {705, 1042, 1191, 367, 367});
    }

    private static void zeroAtLeast() {
        says("less what it is WORN, 0 at least");
        VowRope x = told("law 3 2;speaker 0 0;yarn vow 0 1;yarn oath 0 9;yarn oath 0 9;");
        layAll(x, "012");
        int[] strengths = {3, 2, 1, 0, 0};
        for (int k = 0; k < 5; k++) {
            due(k, x.yarn(0, 5));
            due(strengths[k], x.yarn(0, 2));
            due(3 * strengths[k], x.bears(3));
            if (k < 4) {
                due(NONE, x.pull(0, DRAWS_0));
            }
        }
        // WORN 4: PITCHED 5 less 4, KEPT 7 less 4; KEPT, not PITCHED: 4 less 4
        due(1, x.pitch(0));
        x.vow(0, 1);
        due(3, x.yarn(0, 2));
        x.undo();
        x.undo();
        x.vow(0, 1);
        due(0, x.yarn(0, 2));
        due(4, x.splice(0));
        due(4, x.yarn(0, 2));
    }

    private static void broken() {
        says("BROKEN: 0");
        VowRope x = told("law 5 5;speaker 0 9;yarn vow 0 1;yarn oath 0 1;yarn debt 0 1;yarn lie 0 1;yarn hope 0 1;");
        for (int y = 0; y < 5; y++) {
            x.vow(y, 2);
            due(0, x.yarn(y, 2));
            due(0, x.pitch(y));
            x.lay(y, 0);
        }
        due(0, x.bears(0));
        due(0, x.pull(9999, 1));
        due(5, x.yarn(0, 5));
        due(0, x.yarn(0, 2));
        due(0, x.best(-1));
    }

    private static void ropes() {
        says("A STRAND BEARS what all its YARNS have of STRENGTH, added; THE ROPE 3 times what the least does");
        VowRope x = told(TENS + yarns(9, "vow 0 9"));
        due(0, x.bears(0));
        due(0, x.bears(3));
        layAll(x, "000000000");
        due(810, x.bears(0));
        due(0, x.bears(1));
        due(0, x.bears(3));
        layAll(x, "012222222");
        due(90, x.bears(1));
        due(630, x.bears(2));
        due(270, x.bears(3));
        x.lay(0, -1);
        due(0, x.bears(3));
        layAll(x, "100");
        due(270, x.bears(3));
        layAll(x, "1002111");
        due(180, x.bears(0));
        due(360, x.bears(1));
        due(270, x.bears(2));
        due(540, x.bears(3));
        x.lay(1, 2);
        x.lay(8, 0);
        x.lay(2, 2);
        due(90, x.bears(0));
        due(270, x.bears(3));
        says("Promise 17: a STRAND; THE ROPE (3). BAD");
        for (int s : new int[] {-1, 4, MIN, MAX}) {
            due(BAD, x.bears(s));
            due(STATE, new VowRope().bears(s));
        }
        due(STATE, new VowRope().bears(0));
        due(STATE, new VowRope().bears(3));
        due(0, told("law 1 0;").bears(2));
        due(0, told("law 1 0;").bears(3));
    }

    private static void pitched() {
        says("Promise 10: PITCHED: its STRENGTH then. STATE: it is");
        VowRope x = told("law 10 7;speaker 5 5;" + yarns(2, "vow 0 1"));
        due(17, x.pitch(0));
        due(STATE, x.pitch(0));
        due(1, x.count(4));
        due(1, x.yarn(0, 6));
        due(0, x.yarn(1, 6));
        due(0, x.undo());
        due(0, x.yarn(0, 6));
        due(17, x.pitch(0));
        due(17, x.pitch(1));
        due(STATE, x.pitch(1));
        says("PITCH 0 is PITCHED, too");
        x = told("law 10 0;speaker 5 5;yarn vow 0 1;");
        due(10, x.pitch(0));
        due(1, x.yarn(0, 6));
        due(STATE, x.pitch(0));
    }

    private static void spliced() {
        says("Promise 12: SPLICED: how much it was WORN");
        VowRope x = told(TENS + yarns(3, "vow 0 9"));
        due(0, x.splice(0));
        layAll(x, "012");
        due(NONE, x.pull(0, 1));
        due(NONE, x.pull(0, 1));
        due(0, x.pull(9999, 1));
        due(7, x.yarn(0, 5));
        due(7, x.splice(0));
        due(0, x.yarn(0, 5));
        due(90, x.yarn(0, 2));
        due(0, x.splice(0));
        due(-1, x.yarn(0, 3));
        due(2, x.yarn(1, 5));
        due(2, x.splice(1));
        due(1, x.yarn(1, 3));
    }

    private static void loadsAndSeeds() {
        says("Promise 13: a LOAD (0 to 9999; SEED 1 to 999999)");
        VowRope x = told(TENS + yarns(3, "vow 0 9"));
        layAll(x, "012");
        for (int load : new int[] {-1, 10000, MIN, MAX}) {
            due(BAD, x.pull(load, 1));
        }
        for (int seed : new int[] {0, -1, 1000000, MIN, MAX}) {
            due(BAD, x.pull(0, seed));
            due(BAD, x.pull(9999, seed));
        }
        due(3, x.count(4));
        due(0, x.yarn(0, 5));
        due(NONE, x.pull(0, 1));
        due(NONE, x.pull(0, LAST_SEED));
        due(0, x.pull(9999, 1));
        due(0, x.pull(9999, LAST_SEED));
        says("Promise 13, STATE: no WALK");
        due(STATE, new VowRope().pull(0, 1));
        due(STATE, new VowRope().pull(9999, LAST_SEED));
    }

    private static void duePull(int want, int load, int seed) {
        VowRope x = told(TENS + yarns(3, "vow 0 1"));
        layAll(x, "012");
        due(want, x.pull(load, seed));
        due(want == NONE ? 3 : 2, x.count(3));
    }

    private static void moreThanItBears() {
        says("THE LOAD is more by a DRAW of 10; if it is more than THE ROPE BEARS, it PARTS");
        duePull(NONE, 30, DRAWS_0);
        duePull(0, 31, DRAWS_0);
        duePull(NONE, 23, DRAWS_7);
        duePull(0, 24, DRAWS_7);
        duePull(NONE, 21, DRAWS_9);
        duePull(0, 22, DRAWS_9);
        says("X becomes the rest of (X times 16807) by 2147483647, a wrap-around");
        duePull(NONE, 30 - LAST_DRAWS, LAST_SEED);
        duePull(0, 31 - LAST_DRAWS, LAST_SEED);
        // 127773 times 16807 is the last that is below it: 2147480811; the next one leaves 13971
        duePull(NONE, 29, 127773);
        duePull(0, 30, 127773);
        duePull(NONE, 29, 127774);
        duePull(0, 30, 127774);
        // 255547 times 16807 is 4294978429, beyond 32 bits: it leaves 11135
        duePull(NONE, 25, 255547);
        duePull(0, 26, 255547);
        says("a rope of nothing BEARS 0");
        VowRope x = told("law 1 0;");
        due(NONE, x.pull(0, DRAWS_0));
        due(0, x.pull(1, DRAWS_0));
        due(0, x.pull(0, DRAWS_7));
        due(3, x.count(4));
    }

    private static void dueParts(int want, String strands) {
        VowRope x = told(TENS + yarns(6, "vow 0 1"));
        layAll(x, strands);
        due(want, x.pull(9999, 1));
        for (int y = 0; y < 6; y++) {
            boolean parted = strands.charAt(y) - '0' == want;
            due(parted ? -1 : strands.charAt(y) == '.' ? -1 : strands.charAt(y) - '0', x.yarn(y, 3));
            due(parted ? 5 : 0, x.yarn(y, 5));
        }
    }

    private static void weakest() {
        says("all YARNS of the STRAND that BEARS least (of several the first) are LOOSE then, and 5 more WORN");
        dueParts(0, "001122");
        dueParts(0, "01122.");
        dueParts(1, "00122.");
        dueParts(2, "00112.");
        dueParts(1, "000122");
        dueParts(0, "012222");
        dueParts(0, "01112.");
        dueParts(2, "011111");
        dueParts(2, "000111");
        dueParts(1, "000222");
        dueParts(1, "00....");
        dueParts(0, "......");
    }

    private static void worn() {
        says("else each YARN that is LAID is 1 more WORN");
        VowRope x = told(TENS + yarns(5, "vow 0 1"));
        layAll(x, "0122.");
        x.vow(3, 2);
        due(NONE, x.pull(0, 1));
        int[] dues = {1, 1, 1, 1, 0};
        for (int y = 0; y < 5; y++) {
            due(dues[y], x.yarn(y, 5));
        }
        due(27, x.bears(3));
        x.lay(0, -1);
        x.lay(4, 0);
        due(NONE, x.pull(0, 1));
        int[] then = {1, 2, 2, 2, 1};
        for (int y = 0; y < 5; y++) {
            due(then[y], x.yarn(y, 5));
        }
        says("a STRAND that PARTS: of the others none is WORN more");
        due(1, x.pull(9999, 1));
        int[] last = {1, 7, 2, 2, 1};
        for (int y = 0; y < 5; y++) {
            due(last[y], x.yarn(y, 5));
        }
        due(3, x.count(3));
    }

    private static void nineYarns() {
        says("YARNS 0 .. 8: what is done with the last one is done with no other");
        VowRope x = told("law 50 20;speaker 5 5;" + yarns(9, "vow 0 9"));
        layAll(x, "012012012");
        due(NONE, x.pull(0, 1));
        due(NONE, x.pull(0, 1));
        due(0, x.count(5));
        due(9, x.count(3));
        due(0, x.pull(9999, 1));
        due(6, x.count(3));
        for (int y = 0; y < 9; y++) {
            int[] dues = {0, 9, y % 3 == 0 ? 443 : 448, y % 3 == 0 ? -1 : y % 3, 0, y % 3 == 0 ? 7 : 2, 0};
            for (int what = 0; what < 7; what++) {
                due(dues[what], x.yarn(y, what));
            }
        }
        due(2, x.splice(8));
        due(468 + 2, x.pitch(8));
        due(2, x.lay(8, 1));
        due(0, x.vow(8, 2));
        for (int y = 0; y < 8; y++) {
            due(y % 3 == 0 ? 7 : 2, x.yarn(y, 5));
            due(0, x.yarn(y, 6));
            due(0, x.yarn(y, 4));
            due(y % 3 == 0 ? -1 : y % 3, x.yarn(y, 3));
        }
        due(1, x.count(5));
        due(6, x.count(3));

        says("A YEAR of nine YARNS is the same wherever these are LAID");
        for (int strand = -1; strand < 3; strand++) {
            x = told("law 50 20;speaker 5 5;" + yarns(9, "vow 0 9"));
            for (int y = 0; y < 9; y++) {
                x.lay(y, strand);
            }
            // from SEED 1 on: 7, 9, 3, 8, 0, 2, 4, 8, 3
            due(1 + 2 + 8 + 128, x.year(1));
            due(4, x.count(5));
            due(strand < 0 ? 0 : 9, x.count(3));
        }
    }

    private static void yearSeeds() {
        says("Promise 14: A YEAR (SEED 1 to 999999)");
        VowRope x = told(TENS + yarns(2, "vow 0 1"));
        for (int seed : new int[] {0, -1, 1000000, MIN, MAX}) {
            due(BAD, x.year(seed));
            due(STATE, new VowRope().year(seed));
        }
        due(0, x.count(4));
        due(0, x.yarn(0, 4));
        // by the last SEED: 1774597664, 1410049312: 4, 2
        due(0, x.year(LAST_SEED));
        due(1, x.count(4));
        x.undo();
        due(3, x.year(1));
        due(STATE, new VowRope().year(1));
        says("a YEAR without YARNS");
        x = told("law 1 0;");
        due(0, x.year(1));
        due(1, x.count(4));
    }

    private static void dueYear(int want, int truth, int seed) {
        VowRope x = told("law 1 0;speaker " + truth + " 0;yarn vow 0 1;");
        due(want == 1 ? 0 : 1, x.year(seed));
        due(want, x.yarn(0, 4));
    }

    private static void truths() {
        says("KEPT, if that is below TRUTH of its SPEAKER, else BROKEN");
        dueYear(2, 7, DRAWS_7);
        dueYear(1, 8, DRAWS_7);
        dueYear(2, 0, DRAWS_0);
        dueYear(1, 1, DRAWS_0);
        dueYear(2, 9, DRAWS_9);
        dueYear(1, 10, DRAWS_9);
        dueYear(2, LAST_DRAWS, LAST_SEED);
        dueYear(1, LAST_DRAWS + 1, LAST_SEED);
        says("each DOUBTED vow: an oath is KEPT, a lie is BROKEN, whatever TRUTH");
        for (int truth = 0; truth <= 10; truth += 10) {
            VowRope x = told("law 1 0;speaker " + truth + " 0;yarn oath 0 1;yarn lie 0 1;yarn debt 0 1;yarn hope 0 1;");
            due(truth == 0 ? 14 : 2, x.year(DRAWS_0));
            due(1, x.yarn(0, 4));
            due(2, x.yarn(1, 4));
            due(truth == 0 ? 2 : 1, x.yarn(2, 4));
            due(truth == 0 ? 2 : 1, x.yarn(3, 4));
        }
        says("vows that are told are as they were: not among those that were BROKEN in it");
        VowRope x = told("law 1 0;speaker 0 0;yarn oath 0 1;yarn lie 0 1;yarn vow 0 1;yarn hope 0 1;");
        x.vow(0, 2);
        x.vow(1, 1);
        x.vow(2, 2);
        x.vow(3, 1);
        due(0, x.year(1));
        int[] vows = {2, 1, 2, 1};
        for (int y = 0; y < 4; y++) {
            due(vows[y], x.yarn(y, 4));
        }
        due(5, x.count(4));
    }

    private static void drawsInOrder() {
        says("each DOUBTED vow, in order: of others a DRAW of 10");
        // from SEED 1 on: 7, 9, 3, 8, 0, 2, 4, 8, 3
        String text = "law 1 0;speaker 8 0;speaker 9 0;speaker 3 0;speaker 4 0;";
        int[] speakers = {0, 1, 2, 0, 2, 2, 3, 1, 3};
        StringBuilder all = new StringBuilder(text);
        for (int s : speakers) {
            all.append("yarn vow ").append(s).append(" 1;");
        }
        VowRope x = told(all.toString());
        due(2 + 4 + 8 + 64, x.year(1));
        says("what is told, an oath, a lie take no DRAW");
        x = told(text + "yarn oath 0 1;yarn vow 0 1;yarn lie 0 1;yarn hope 1 1;yarn vow 0 1;yarn debt 3 1;");
        x.vow(4, 1);
        // yarn 1 draws 7, yarn 3 draws 9, yarn 5 draws 3
        due(4 + 8, x.year(1));
        due(1, x.yarn(5, 4));
        says("X at first is the SEED, anew by each ACT");
        x = told(text + "yarn vow 0 1;yarn vow 0 1;");
        due(2, x.year(1));
        x.vow(1, 0);
        due(0, x.year(1));
    }

    private static void acts() {
        says("ACTS (24 at most are kept, of more the oldest is forgotten)");
        for (int n = 23; n <= 26; n++) {
            VowRope x = told(TENS + yarns(1, "vow 0 1"));
            for (int k = 1; k <= n; k++) {
                x.vow(0, k % 3);
                due(Math.min(k, 24), x.count(4));
            }
            int kept = Math.min(n, 24);
            for (int k = 1; k <= kept; k++) {
                due(kept - k, x.undo());
                due((n - k) % 3, x.yarn(0, 4));
            }
            due(STATE, x.undo());
            due(0, x.count(4));
            due((n - kept) % 3, x.yarn(0, 4));
        }
        says("each of the ACTS is one of the 24");
        VowRope x = told(TENS + yarns(2, "vow 0 1"));
        x.lay(0, 0);
        x.lay(0, 0);
        x.pitch(0);
        x.vow(0, 0);
        x.splice(0);
        x.pull(0, 1);
        x.pull(9999, 1);
        x.year(1);
        x.year(1);
        due(9, x.count(4));
        for (int k = 0; k < 15; k++) {
            x.splice(1);
        }
        due(24, x.count(4));
        x.splice(1);
        due(24, x.count(4));
        for (int k = 23; k >= 0; k--) {
            due(k, x.undo());
        }
        // the first lay is forgotten: it can't be undone
        due(0, x.yarn(0, 3));
    }

    private static void ring() {
        says("each can be undone, the latest first; a wrap-around");
        VowRope x = told(TENS + yarns(1, "vow 0 1"));
        int[] vows = new int[200];
        int at = 0;
        int[] rounds = {24, -10, 15, -24, 30, -23, 22, -1, 2, -24};
        int kept = 0;
        for (int round : rounds) {
            for (int k = 0; k < round; k++) {
                int how = (vows[at] + 1 + (at % 5 == 0 ? 1 : 0)) % 3;
                due(vows[at], x.vow(0, how));
                at++;
                vows[at] = how;
                kept = Math.min(kept + 1, 24);
            }
            for (int k = 0; k > round; k--) {
                at--;
                kept--;
                due(kept, x.undo());
                due(vows[at], x.yarn(0, 4));
            }
            due(kept, x.count(4));
        }
        due(STATE, x.undo());
    }

    private static void undone() {
        says("Promise 15: The latest ACT is undone: how many can be undone yet. STATE: none");
        due(STATE, new VowRope().undo());
        due(STATE, told("law 1 0;").undo());
        VowRope x = told(TENS + yarns(3, "vow 0 1"));
        due(STATE, x.undo());
        x.lay(0, 1);
        due(0, x.undo());
        due(STATE, x.undo());
        due(-1, x.yarn(0, 3));
        says("a PULL, a YEAR is undone whole");
        layAll(x, "012");
        due(NONE, x.pull(0, DRAWS_0));
        due(0, x.pull(9999, 1));
        due(3, x.year(1));
        due(0, x.pull(9999, 1));
        due(6, x.undo());
        due(2, x.yarn(0, 4));
        due(2, x.yarn(1, 4));
        due(1, x.yarn(2, 4));
        due(5, x.undo());
        for (int y = 0; y < 3; y++) {
            due(0, x.yarn(y, 4));
        }
        due(6, x.yarn(0, 5));
        due(-1, x.yarn(0, 3));
        due(4, x.undo());
        for (int y = 0; y < 3; y++) {
            due(1, x.yarn(y, 5));
            due(y, x.yarn(y, 3));
        }
        due(3, x.undo());
        for (int y = 0; y < 3; y++) {
            due(0, x.yarn(y, 5));
        }
        says("what parted, and what was SPLICED, is as it was");
        due(0, x.pull(9999, 1));
        due(5, x.splice(0));
        due(4, x.undo());
        due(5, x.yarn(0, 5));
        due(-1, x.yarn(0, 3));
        due(3, x.undo());
        due(0, x.yarn(0, 5));
        due(0, x.yarn(0, 3));
        says("none behind a WALK that is read, nor behind restore");
        x.image(0);
        due(3, x.count(4));
        x.restore(0);
        due(STATE, x.undo());
        x.lay(0, 1);
        walkOf(x, TENS);
        due(STATE, x.undo());
    }

    private static void asked() {
        says("Promise 16: Of a YARN: 0 SPEAKER .. 6 whether PITCHED. BAD");
        VowRope x = told("law 10 0;" + "speaker 5 5;".repeat(5) + yarns(8, "vow 0 1") + "yarn hope 4 9;");
        for (int what : new int[] {-1, 7, MIN, MAX}) {
            due(BAD, x.yarn(0, what));
            due(BAD, x.yarn(8, what));
            due(BAD, x.yarn(9, what));
        }
        x.pitch(8);
        x.vow(8, 1);
        x.lay(8, 2);
        x.pull(9999, 1);
        x.pull(9999, 1);
        x.pull(0, DRAWS_0);
        int[] dues = {4, 9, 66, 2, 1, 1, 1};
        for (int what = 0; what < 7; what++) {
            due(dues[what], x.yarn(8, what));
        }
    }

    private static void manyCalls() {
        says("An object is used for at most 512 calls after it has been made");
        VowRope x = new VowRope();
        // 60 bytes, in 8 calls
        feedText(x, "law 50 0;speaker 5 5;" + yarns(3, "vow 0 9"));
        due(3, x.walk());
        layAll(x, "012");
        for (int call = 13; call <= 509; call++) {
            due(NONE, x.pull(0, DRAWS_0));
        }
        due(497, x.yarn(0, 5));
        due(0, x.yarn(0, 2));
        due(24, x.count(4));
    }
}
