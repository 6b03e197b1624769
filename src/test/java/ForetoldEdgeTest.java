/** Edges of what is FORETOLD, and of IMAGES: promises 18 to 26. */
public final class ForetoldEdgeTest extends EdgeTest {
    private static final int[] NO_LOADS = {-1, 10000, MIN, MAX};
    /** Each of these is BAD where 0 and 1 are taken. */
    private static final int[] NOT_0_1 = {-1, 2, MIN, MAX};

    public static void main(String[] args) {
        bestNumbers();
        bestFew();
        bestFirst();
        foretoldAnew();
        nothingChanges();
        cheapestNumbers();
        cheapestLoads();
        cheapestFirst();
        cheapestNone();
        oddsNumbers();
        oddsEnds();
        oddsLowest();
        oddsLoads();
        riskNumbers();
        riskPlaces();
        riskLoads();
        riskBelow();
        whoseNumbers();
        whoseEdges();
        geese();
        fathoms();
        imageNumbers();
        images();
        end();
    }

    /** HEMP 1, vows: LENGTHS are STRENGTHS, and PRICES with them. */
    private static VowRope vows(int... lengths) {
        StringBuilder text = new StringBuilder("law 1 0;speaker 5 1;");
        for (int n : lengths) {
            text.append("yarn vow 0 ").append(n).append(";");
        }
        return told(text.toString());
    }

    private static void dueBest(VowRope x, int bears, int... strands) {
        due(bears, x.best(-1));
        for (int k = 0; k < strands.length; k++) {
            due(strands[k], x.best(k));
        }
        due(BAD, x.best(strands.length));
    }

    private static void bestNumbers() {
        says("Promise 18: what it BEARS (k = -1), the STRAND of YARN k. BAD; STATE: no WALK");
        for (int n : new int[] {0, 1, 9}) {
            VowRope x = told("law 1 0;speaker 0 0;" + yarns(n, "vow 0 1"));
            for (int k : new int[] {-2, n, n + 1, MIN, MAX}) {
                due(BAD, x.best(k));
                due(STATE, new VowRope().best(k));
            }
            due(n / 3 * 3, x.best(-1));
            due(n == 0 ? BAD : 0, x.best(0));
            due(n == 0 ? BAD : n == 9 ? 2 : 0, x.best(n - 1 < 0 ? 0 : n - 1));
        }
        due(STATE, new VowRope().best(-1));
        due(STATE, new VowRope().best(0));
    }

    private static void bestFew() {
        says("BEST: all YARNS LAID to STRANDS anew; of fewer than three, or BROKEN ones, it BEARS 0");
        dueBest(vows(), 0);
        dueBest(vows(9), 0, 0);
        dueBest(vows(9, 9), 0, 0, 0);
        dueBest(vows(9, 9, 1), 3, 0, 1, 2);
        VowRope x = vows(9, 9, 1);
        x.vow(2, 2);
        dueBest(x, 0, 0, 0, 0);
        x.vow(2, 1);
        dueBest(x, 3, 0, 1, 2);
        x.vow(2, 2);
        dueBest(x, 0, 0, 0, 0);
        x = vows(2, 2, 2, 2, 2, 2);
        for (int y = 0; y < 6; y++) {
            x.vow(y, 2);
        }
        dueBest(x, 0, 0, 0, 0, 0, 0, 0);
        says("BEST of nine of the strongest, and of nine unlike ones");
        x = told("law 50 20;speaker 10 99;" + yarns(9, "debt 0 9"));
        for (int y = 0; y < 9; y++) {
            x.vow(y, 1);
            x.pitch(y);
        }
        dueBest(x, 10719, 0, 0, 0, 1, 1, 1, 2, 2, 2);
        dueBest(vows(1, 2, 3, 4, 5, 6, 7, 8, 9), 45, 0, 0, 0, 0, 0, 1, 2, 2, 1);
    }

    private static void bestFirst() {
        says("so that THE ROPE BEARS most: by the weakest STRAND, whichever it is");
        dueBest(vows(1, 9, 9), 3, 0, 1, 2);
        dueBest(vows(9, 1, 9), 3, 0, 1, 2);
        dueBest(vows(9, 9, 1), 3, 0, 1, 2);
        dueBest(vows(4, 9, 2, 9), 18, 0, 1, 0, 2);
        says("BEST: the row of STRANDS, of several the first");
        dueBest(vows(1, 1, 1, 1), 3, 0, 0, 1, 2);
        dueBest(vows(1, 1, 2, 2), 6, 0, 0, 1, 2);
        dueBest(vows(2, 2, 1, 1), 6, 0, 1, 2, 2);
        dueBest(vows(2, 1, 2, 1), 6, 0, 1, 2, 1);
        dueBest(vows(3, 1, 1, 1), 3, 0, 0, 1, 2);
        dueBest(vows(1, 1, 1, 3), 3, 0, 0, 1, 2);
        dueBest(vows(1, 9, 9, 9), 27, 0, 0, 1, 2);
        // a BROKEN one changes nothing wherever it lies: to the first STRAND
        VowRope x = vows(5, 5, 5, 5);
        x.vow(3, 2);
        dueBest(x, 15, 0, 1, 2, 0);
        x.vow(3, 0);
        x.vow(0, 2);
        dueBest(x, 15, 0, 0, 1, 2);
    }

    private static void foretoldAnew() {
        says("FORETOLD of the WALK that stands, not of one before it");
        VowRope x = thrice("law 9 0;speaker 5 1;", "vow 0 9");
        dueBest(x, 729, 0, 0, 0, 1, 1, 1, 2, 2, 2);
        dueCheapest(x, 729, 81, 511);
        // KEPT 121 each: two are 242
        dueOdds(x, 726, 1, 8);
        dueOdds(x, 727, 1, 512);
        walkOf(x, "law 1 0;speaker 5 1;yarn vow 0 2;yarn vow 0 1;yarn vow 0 2;yarn vow 0 1;");
        dueBest(x, 6, 0, 1, 2, 1);
        dueCheapest(x, 6, 6, 15);
        dueCheapest(x, 7, NONE, NONE);
        dueOdds(x, 1, 0, 1);
        walkOf(x, "law 1 0;speaker 5 1;yarn vow 0 2;");
        dueBest(x, 0, 0);
        dueCheapest(x, 1, NONE, NONE);
        walkOf(x, "law 1 0;");
        dueBest(x, 0);
        dueCheapest(x, 1, NONE, NONE);
        dueOdds(x, 0, 1, 1);
    }

    private static void nothingChanges() {
        says("FORETOLD (nothing changes)");
        VowRope x = told("law 10 5;speaker 5 5;speaker 10 1;yarn vow 0 3;yarn oath 1 2;yarn hope 0 9;yarn debt 1 1;");
        layAll(x, "2.01");
        x.vow(0, 2);
        x.row(0, 2, 3);
        x.set(1, 0, 0);
        for (int round = 0; round < 2; round++) {
            x.best(-1);
            x.best(3);
            x.cheapest(30, 1);
            x.odds(30, 0);
            x.whose(0, 9999);
            x.geese(15);
            x.fathoms(0);
            x.image(0);
            due(1, x.status());
            due(4, x.count(4));
            due(2, x.yarn(0, 3));
            due(-1, x.yarn(1, 3));
            due(0, x.yarn(2, 3));
            due(1, x.yarn(3, 3));
            due(2, x.yarn(0, 4));
            due(0, x.yarn(2, 4));
            due(45, x.bears(0));
        }
        due(3, x.risk(0, 0, 3));
        due(4, x.count(4));
        due(3, x.undo());
        due(0, x.yarn(0, 4));
    }

    private static void cheapestNumbers() {
        says("Promise 19: a LOAD (0 to 9999): PRICE (what = 0), YARNS (1, bits). BAD; STATE: no WALK");
        VowRope x = vows(1, 1, 1);
        for (int load : NO_LOADS) {
            due(BAD, x.cheapest(load, 0));
            due(STATE, new VowRope().cheapest(load, 0));
        }
        for (int what : NOT_0_1) {
            due(BAD, x.cheapest(0, what));
            due(BAD, x.cheapest(9999, what));
            due(STATE, new VowRope().cheapest(0, what));
        }
        due(0, x.cheapest(0, 0));
        due(0, x.cheapest(0, 1));
        due(NONE, x.cheapest(9999, 0));
        due(NONE, x.cheapest(9999, 1));
        due(STATE, new VowRope().cheapest(0, 0));
    }

    private static void dueCheapest(VowRope x, int load, int price, int some) {
        due(price, x.cheapest(load, 0));
        due(some, x.cheapest(load, 1));
    }

    private static void cheapestLoads() {
        says("CHEAPEST for a LOAD: so that it BEARS that or more");
        VowRope x = vows(1, 2, 3, 3);
        dueCheapest(x, 0, 0, 0);
        dueCheapest(x, 1, 6, 7);
        dueCheapest(x, 3, 6, 7);
        dueCheapest(x, 4, 8, 14);
        dueCheapest(x, 6, 8, 14);
        dueCheapest(x, 7, 9, 15);
        dueCheapest(x, 9, 9, 15);
        dueCheapest(x, 10, NONE, NONE);
        says("a LOAD of 9999, that THE ROPE can BEAR");
        x = told("law 50 20;speaker 10 99;" + yarns(9, "debt 0 9"));
        for (int y = 0; y < 9; y++) {
            x.vow(y, 1);
            x.pitch(y);
        }
        // 3 times 3 times 1191, or 3 times 2 times that
        dueCheapest(x, 9999, 8019, 511);
        dueCheapest(x, 7147, 8019, 511);
        dueCheapest(x, 7146, 5346, 63);
        x.vow(8, 0);
        // 3 times (1191 and 1191 and 794) is 9528
        dueCheapest(x, 9528, 8019, 511);
        dueCheapest(x, 9529, NONE, NONE);
    }

    private static void cheapestFirst() {
        says("CHEAPEST: of several the set that is least as bits");
        dueCheapest(vows(1, 1, 1, 1, 1), 3, 3, 7);
        dueCheapest(vows(2, 2, 1, 1, 2), 6, 6, 15);
        VowRope x = told("law 1 0;speaker 5 0;" + yarns(9, "vow 0 1"));
        dueCheapest(x, 0, 0, 0);
        dueCheapest(x, 3, 0, 7);
        dueCheapest(x, 6, 0, 63);
        dueCheapest(x, 9, 0, 511);
        // dearer ones are left, though they come first
        x = told("law 1 0;speaker 5 9;speaker 5 1;" + yarns(3, "vow 0 1") + yarns(3, "vow 1 1"));
        dueCheapest(x, 3, 3, 56);
        dueCheapest(x, 6, 30, 63);
        // a stronger one of the same PRICE that comes later is not taken in place of an earlier one
        x = told("law 2 0;speaker 5 1;" + yarns(3, "vow 0 2") + yarns(3, "oath 0 2"));
        dueCheapest(x, 12, 6, 7);
        dueCheapest(x, 13, 6, 56);
        says("the least PRICE (of each its SPEAKER's PRICE times LENGTH, added)");
        x = told("law 1 0;speaker 5 99;yarn vow 0 9;yarn vow 0 9;yarn vow 0 9;");
        dueCheapest(x, 1, 2673, 7);
    }

    private static void cheapestNone() {
        says("CHEAPEST: NONE; no YARNS, or too few");
        VowRope x = told("law 1 0;");
        dueCheapest(x, 0, 0, 0);
        dueCheapest(x, 1, NONE, NONE);
        dueCheapest(vows(9, 9), 0, 0, 0);
        dueCheapest(vows(9, 9), 1, NONE, NONE);
        x = told("law 1 0;speaker 5 0;" + yarns(9, "hope 0 1"));
        dueCheapest(x, 0, 0, 0);
        dueCheapest(x, 1, NONE, NONE);
        x = told("law 1 0;speaker 5 0;" + yarns(7, "hope 0 1") + yarns(2, "vow 0 1"));
        dueCheapest(x, 1, NONE, NONE);
        x = vows(9, 9, 9);
        dueCheapest(x, 27, 27, 7);
        dueCheapest(x, 28, NONE, NONE);
        x.vow(1, 2);
        dueCheapest(x, 0, 0, 0);
        dueCheapest(x, 1, NONE, NONE);
    }

    private static void dueOdds(VowRope x, int load, int above, int below) {
        due(above, x.odds(load, 0));
        due(below, x.odds(load, 1));
    }

    private static VowRope thrice(String law, String what) {
        VowRope x = told(law + yarns(9, what));
        layAll(x, "012012012");
        return x;
    }

    private static void oddsNumbers() {
        says("Promise 20: a LOAD (0 to 9999): above (what = 0), below (1). BAD; STATE: no WALK");
        VowRope x = vows(1, 1, 1);
        for (int load : NO_LOADS) {
            due(BAD, x.odds(load, 0));
            due(BAD, x.odds(load, 1));
            due(STATE, new VowRope().odds(load, 0));
        }
        for (int what : NOT_0_1) {
            due(BAD, x.odds(0, what));
            due(STATE, new VowRope().odds(0, what));
        }
        dueOdds(x, 0, 1, 1);
        dueOdds(x, 9999, 0, 1);
        due(STATE, new VowRope().odds(0, 0));
    }

    private static void oddsEnds() {
        says("fractions, told as two numbers in lowest terms (0 is 0 by 1)");
        dueOdds(told("law 1 0;"), 0, 1, 1);
        dueOdds(told("law 1 0;"), 1, 0, 1);
        dueOdds(vows(1, 1, 1, 1, 1, 1, 1, 1, 1), 0, 1, 1);
        dueOdds(vows(1, 1, 1, 1, 1, 1, 1, 1, 1), 1, 0, 1);
        says("KEPT with TRUTH of its SPEAKER in ten: never with 0, always with 10");
        dueOdds(thrice("law 2 0;speaker 0 0;", "vow 0 1"), 1, 0, 1);
        dueOdds(thrice("law 2 0;speaker 0 0;", "vow 0 1"), 0, 1, 1);
        dueOdds(thrice("law 2 0;speaker 10 0;", "vow 0 1"), 27, 1, 1);
        dueOdds(thrice("law 2 0;speaker 10 0;", "vow 0 1"), 28, 0, 1);
        says("an oath always, a lie never");
        dueOdds(thrice("law 2 0;speaker 0 0;", "oath 0 1"), 36, 1, 1);
        dueOdds(thrice("law 2 0;speaker 0 0;", "oath 0 1"), 37, 0, 1);
        dueOdds(thrice("law 2 0;speaker 10 0;", "lie 0 1"), 1, 0, 1);
        says("a debt, a hope by TRUTH, as others");
        dueOdds(thrice("law 4 0;speaker 10 0;", "hope 0 1"), 27, 1, 1);
        dueOdds(thrice("law 4 0;speaker 0 0;", "hope 0 1"), 1, 0, 1);
        dueOdds(thrice("law 2 0;speaker 0 0;", "debt 0 1"), 1, 0, 1);
        dueOdds(thrice("law 2 0;speaker 10 0;", "debt 0 1"), 36, 1, 1);
        says("vows that are told stay: KEPT, BROKEN");
        VowRope x = thrice("law 2 0;speaker 5 0;", "lie 0 1");
        for (int y = 0; y < 9; y++) {
            x.vow(y, 1);
        }
        dueOdds(x, 9, 1, 1);
        x = thrice("law 2 0;speaker 10 0;", "oath 0 1");
        for (int y = 0; y < 9; y++) {
            x.vow(y, 2);
        }
        dueOdds(x, 1, 0, 1);

        says("BROKEN ones beside others: never KEPT, and no year more");
        x = told("law 2 0;speaker 5 0;yarn vow 0 1;yarn oath 0 1;yarn oath 0 1;yarn vow 0 1;yarn hope 0 9;");
        layAll(x, "01201");
        x.vow(3, 2);
        x.vow(4, 2);
        dueOdds(x, 0, 1, 1);
        dueOdds(x, 9, 1, 2);
        dueOdds(x, 10, 0, 1);
        x.vow(0, 1);
        dueOdds(x, 9, 1, 1);
    }

    private static void oddsLowest() {
        says("ODDS: a fraction in lowest terms, of all TRUTHS");
        int[][] dues = {{0, 1}, {1, 10}, {1, 5}, {3, 10}, {2, 5}, {1, 2}, {3, 5}, {7, 10}, {4, 5}, {9, 10}, {1, 1}};
        for (int truth = 0; truth <= 10; truth++) {
            VowRope x = told("law 1 0;speaker " + truth + " 0;yarn vow 0 1;yarn oath 0 1;yarn oath 0 1;yarn vow 0 9;");
            layAll(x, "012");
            dueOdds(x, 3, dues[truth][0], dues[truth][1]);
        }
        says("ODDS of nine vows, all of which must be KEPT");
        dueOdds(thrice("law 2 0;speaker 1 0;", "vow 0 1"), 27, 1, 1000000000);
        dueOdds(thrice("law 2 0;speaker 3 0;", "vow 0 1"), 27, 19683, 1000000000);
        dueOdds(thrice("law 2 0;speaker 9 0;", "vow 0 1"), 27, 387420489, 1000000000);
        dueOdds(thrice("law 2 0;speaker 5 0;", "vow 0 1"), 27, 1, 512);
        dueOdds(thrice("law 2 0;speaker 8 0;", "vow 0 1"), 27, 262144, 1953125);
        // one is KEPT at least in each STRAND: 999 of 1000 each
        dueOdds(thrice("law 2 0;speaker 9 0;", "vow 0 1"), 9, 997002999, 1000000000);
    }

    private static void oddsLoads() {
        says("ODDS that THE ROPE, as it is, BEARS a LOAD: that or less");
        VowRope x = thrice("law 2 0;speaker 5 0;", "vow 0 1");
        dueOdds(x, 0, 1, 1);
        dueOdds(x, 1, 343, 512);
        dueOdds(x, 9, 343, 512);
        dueOdds(x, 10, 1, 8);
        dueOdds(x, 18, 1, 8);
        dueOdds(x, 19, 1, 512);
        dueOdds(x, 27, 1, 512);
        dueOdds(x, 28, 0, 1);
        says("a YARN that is LOOSE bears nothing");
        x.lay(8, -1);
        dueOdds(x, 27, 0, 1);
        dueOdds(x, 18, 1, 16);
        says("what is WORN and PITCHED counts");
        x = told("law 2 1;speaker 5 0;" + yarns(3, "oath 0 1"));
        layAll(x, "012");
        x.pull(0, 10);
        dueOdds(x, 9, 1, 1);
        dueOdds(x, 10, 0, 1);
        for (int y = 0; y < 3; y++) {
            x.pitch(y);
        }
        dueOdds(x, 15, 1, 1);
        dueOdds(x, 16, 0, 1);
    }

    /** THE ROPE BEARS 30. */
    private static VowRope thirty() {
        VowRope x = told("law 10 0;speaker 5 5;" + yarns(3, "vow 0 1"));
        layAll(x, "012");
        return x;
    }

    private static void riskNumbers() {
        says("Promise 21, BAD: ROW, n (1 to 40); STATE: no WALK");
        VowRope x = thirty();
        x.row(0, 2, 40);
        x.row(7, 0, 40);
        for (int n : new int[] {0, 41, -1, MIN, MAX}) {
            due(BAD, x.risk(0, 0, n));
            due(STATE, new VowRope().risk(0, 0, n));
        }
        for (int r : new int[] {-1, 8, MIN, MAX}) {
            due(BAD, x.risk(r, 0, 1));
            due(STATE, new VowRope().risk(r, 0, 1));
        }
        due(1, x.risk(0, 0, 1));
        due(40, x.risk(0, 0, 40));
        due(40, x.risk(7, 0, 40));
        due(1, x.risk(7, 39, 1));
        due(STATE, new VowRope().risk(0, 0, 1));
    }

    private static void riskPlaces() {
        says("Promise 21: NULL; PLACE");
        VowRope x = thirty();
        due(NULL, x.risk(3, 0, 1));
        due(1, x.status());
        x.row(3, 2, 5);
        x.set(3, 4, 31);
        int[][] wrong = {{-1, 1}, {5, 1}, {0, 6}, {1, 5}, {4, 2}, {MAX, 1}, {MAX, 40}, {MIN, 1}, {MIN, 40}, {-1, 40}};
        for (int[] w : wrong) {
            due(PLACE, x.risk(3, w[0], w[1]));
            due(2, x.status());
        }
        due(4, x.risk(3, 0, 5));
        due(0, x.status());
        due(0, x.risk(3, 4, 1));
        due(3, x.risk(3, 1, 4));
        x.row(3, 2, 0);
        due(PLACE, x.risk(3, 0, 1));
    }

    private static void riskLoads() {
        says("RISK: how many of these it BEARS now, from the first on, ahead of the first that it does not");
        VowRope x = thirty();
        x.row(0, 2, 5);
        int[] loads = {30, 0, 29, 31, 1};
        for (int i = 0; i < 5; i++) {
            x.set(0, i, loads[i]);
        }
        due(3, x.risk(0, 0, 5));
        due(3, x.risk(0, 0, 3));
        due(0, x.risk(0, 3, 2));
        due(1, x.risk(0, 4, 1));
        due(1, x.risk(0, 2, 2));
        x.set(0, 0, 31);
        due(0, x.risk(0, 0, 5));
        x.set(0, 0, MAX);
        due(0, x.risk(0, 0, 5));
        x.set(0, 0, 10000);
        due(0, x.risk(0, 0, 1));
        x.lay(0, -1);
        due(1, x.risk(0, 1, 2));
        due(0, x.risk(0, 2, 2));
    }

    private static void riskBelow() {
        says("Promise 21: then BAD: an ITEM below 0");
        VowRope x = thirty();
        for (int lane = 0; lane < 3; lane++) {
            x.row(lane, lane, 4);
            for (int at = 0; at < 4; at++) {
                x.set(lane, at, -1);
                due(BAD, x.risk(lane, 0, 4));
                due(BAD, x.risk(lane, at, 1));
                due(at == 0 ? 3 : at, at == 0 ? x.risk(lane, 1, 3) : x.risk(lane, 0, at));
                x.set(lane, at, 0);
            }
            due(4, x.risk(lane, 0, 4));
        }
        says("an ITEM below 0 behind one that it does not BEAR");
        x.set(2, 0, 31);
        x.set(2, 3, MIN);
        due(BAD, x.risk(2, 0, 4));
        due(0, x.risk(2, 0, 3));
        x.set(0, 1, 128);
        due(BAD, x.risk(0, 0, 2));
        x.set(1, 1, 32768);
        due(BAD, x.risk(1, 0, 2));
    }

    private static void whoseNumbers() {
        says("Promise 22: both 0 to 9999, that greater. BAD; STATE: no WALK");
        VowRope x = thirty();
        for (int load : NO_LOADS) {
            due(BAD, x.whose(load, 9999));
            due(BAD, x.whose(0, load));
            due(STATE, new VowRope().whose(load, 9999));
            due(STATE, new VowRope().whose(0, load));
        }
        due(BAD, x.whose(0, 0));
        due(BAD, x.whose(5, 5));
        due(BAD, x.whose(9999, 9999));
        due(BAD, x.whose(1, 0));
        due(BAD, x.whose(9999, 0));
        due(7, x.whose(0, 1));
        due(7, x.whose(0, 9999));
        due(0, x.whose(9998, 9999));
        due(BAD, x.whose(9999, 10000));
        due(BAD, x.whose(-1, 0));
        due(STATE, new VowRope().whose(0, 1));
        due(STATE, new VowRope().whose(1, 1));
        due(0, told("law 1 0;").whose(0, 1));
    }

    private static void whoseEdges() {
        says("WHOSE: each of which alone, if it were BROKEN, would make that so");
        // without yarn 3 or 4 the rope bears 30, without yarn 0, 1 or 2: 60, 30, 0
        VowRope x = told("law 10 0;speaker 5 5;yarn vow 0 1;yarn vow 0 2;yarn vow 0 3;yarn vow 0 1;yarn vow 0 1;");
        layAll(x, "00211");
        due(10, x.bears(2) - x.bears(1));
        due(1 << 2, x.whose(0, 1));
        due(1 << 2, x.whose(0, 30));
        due((1 << 1) + (1 << 2) + (1 << 3) + (1 << 4), x.whose(0, 31));
        due((1 << 1) + (1 << 3) + (1 << 4), x.whose(1, 31));
        due((1 << 1) + (1 << 3) + (1 << 4), x.whose(30, 31));
        due(0, x.whose(31, 60));
        due(1, x.whose(31, 61));
        due(1, x.whose(60, 61));
        due(0, x.whose(61, 9999));
        due(31, x.whose(0, 61));
        says("LAID ones that are not BROKEN");
        x.lay(2, -1);
        due(27, x.whose(0, 1));
        x.vow(0, 2);
        due(26, x.whose(0, 1));
        x.vow(0, 1);
        due(27, x.whose(0, 1));
        for (int y = 0; y < 5; y++) {
            VowRope one = told("law 10 0;speaker 5 5;" + yarns(5, "vow 0 1"));
            layAll(one, "22222");
            one.vow(y, 2);
            due(31 - (1 << y), one.whose(0, 1));
            one.vow(y, 0);
            one.lay(y, -1);
            due(31 - (1 << y), one.whose(0, 1));
        }
        due(511, thrice("law 1 0;speaker 5 5;", "vow 0 1").whose(0, 9999));
        due(511, thrice("law 1 0;speaker 5 5;", "vow 0 1").whose(6, 9));
        due(0, thrice("law 1 0;speaker 5 5;", "vow 0 1").whose(9, 10));
        says("a YARN without STRENGTH that is not BROKEN");
        x = told("law 1 0;speaker 5 5;yarn hope 0 1;yarn vow 0 1;yarn vow 0 1;yarn vow 0 1;");
        layAll(x, "0012");
        due(1, x.whose(3, 4));
        due(15, x.whose(0, 4));
        due(14, x.whose(0, 3));
    }

    private static void geese() {
        says("GEESE: the fewest tests that tell it whatever comes");
        VowRope x = told("law 1 0;speaker 0 0;" + yarns(9, "vow 0 1"));
        int[] tests = {0, 1, 2, 2, 3, 3, 3, 3, 4};
        for (int n = 1; n <= 9; n++) {
            due(tests[n - 1], x.geese((1 << n) - 1));
            due(tests[n - 1], x.geese(511 - (1 << 9 - n) + 1));
        }
        due(0, x.geese(16));
        due(2, x.geese(0b100100010));
        says("Promise 23, BAD: YARNS that there are not, none; STATE: no WALK");
        for (int n = 0; n <= 9; n += 3) {
            VowRope y = told("law 1 0;speaker 0 0;" + yarns(n, "vow 0 1"));
            for (int some : new int[] {0, -1, 1 << n, (1 << n) + 1, MIN, MAX, 1 << 30, MIN + 1}) {
                due(BAD, y.geese(some));
                due(STATE, new VowRope().geese(some));
            }
            if (n > 0) {
                due(0, y.geese(1));
                due(0, y.geese(1 << n - 1));
                due(tests[n - 1], y.geese((1 << n) - 1));
            }
        }
        due(STATE, new VowRope().geese(1));
    }

    private static void fathoms() {
        says("FATHOMS of a SPEAKER: LENGTH of his YARNS that are KEPT. BAD");
        for (int n : new int[] {0, 1, 5}) {
            VowRope x = told("law 1 0;" + "speaker 0 0;".repeat(n));
            for (int s : new int[] {-1, n, n + 1, MIN, MAX}) {
                due(BAD, x.fathoms(s));
            }
            if (n > 0) {
                due(0, x.fathoms(0));
                due(0, x.fathoms(n - 1));
            }
        }
        due(BAD, new VowRope().fathoms(0));
        VowRope x = told("law 1 0;" + "speaker 0 0;".repeat(5) + yarns(8, "vow 4 9") + "yarn lie 3 9;");
        due(0, x.fathoms(4));
        for (int y = 0; y < 9; y++) {
            x.vow(y, 1);
        }
        due(72, x.fathoms(4));
        due(9, x.fathoms(3));
        due(0, x.fathoms(0));
        x.vow(0, 0);
        x.vow(1, 2);
        due(54, x.fathoms(4));
    }

    private static void imageNumbers() {
        says("Promise 25: An IMAGE (0, 1). BAD; STATE: no WALK");
        VowRope x = new VowRope();
        for (int k : NOT_0_1) {
            due(BAD, x.image(k));
            due(BAD, x.restore(k));
        }
        due(STATE, x.image(0));
        due(STATE, x.image(1));
        says("Promise 26, STATE: none was kept");
        due(STATE, x.restore(0));
        due(STATE, x.restore(1));
        walkOf(x, "law 1 0;speaker 0 0;yarn vow 0 1;");
        for (int k : NOT_0_1) {
            due(BAD, x.image(k));
        }
        due(STATE, x.restore(0));
        due(STATE, x.restore(1));
        due(1, x.image(1));
        due(STATE, x.restore(0));
        due(1, x.restore(1));
        due(1, x.image(0));
        due(1, x.restore(0));
        due(1, x.restore(0));
        for (int k : NOT_0_1) {
            due(BAD, x.restore(k));
        }
    }

    private static void images() {
        says("Promise 26: The WALK is as an IMAGE kept it (no ACT can be undone then)");
        VowRope x = told("law 4 3;speaker 7 5;speaker 0 11;yarn vow 0 3;yarn debt 1 2;yarn oath 0 5;");
        layAll(x, "012");
        due(NONE, x.pull(0, 10));
        x.pitch(1);
        x.vow(1, 1);
        due(1, x.image(0));
        due(6, x.count(4));
        x.vow(1, 2);
        due(1, x.splice(1));
        x.lay(0, -1);
        due(1, x.image(1));
        due(1, x.restore(0));
        due(STATE, x.undo());
        due(0, x.count(4));
        due(0, x.yarn(0, 3));
        due(1, x.yarn(1, 3));
        due(1, x.yarn(1, 5));
        due(1, x.yarn(1, 6));
        due(1, x.yarn(1, 4));
        due(38, x.yarn(1, 2));
        due(1, x.restore(1));
        due(-1, x.yarn(0, 3));
        due(2, x.yarn(1, 4));
        due(0, x.yarn(1, 5));
        says("an IMAGE holds what was told: LAW, SPEAKERS, YARNS; behind another WALK, too");
        due(3, walkOf(x, "law 1 0;speaker 10 1;" + yarns(3, "hope 0 9")));
        due(1, x.restore(0));
        due(2, x.count(1));
        due(3, x.count(2));
        due(1, x.yarn(1, 0));
        due(2, x.yarn(1, 1));
        due(3, x.kind(1));
        due(38, x.yarn(1, 2));
        // by SEED 1 the DRAW is 7: not below TRUTH 7
        due(1, x.year(1));
        due(0, x.pitch(0));
        x.vow(0, 0);
        due(14, x.yarn(0, 2));
        says("an IMAGE is kept in place of the one before, and stays as it was kept");
        due(1, x.restore(0));
        due(0, x.yarn(0, 4));
        due(0, x.yarn(0, 6));
        due(0, walkOf(x, "law 1 0;speaker 1 1;"));
        due(1, x.image(0));
        due(1, x.restore(1));
        due(3, x.count(2));
        due(1, x.restore(0));
        due(0, x.count(2));
        due(1, x.count(1));
        says("ROWS, THE TAPE and the FAULT are none of the WALK");
        x.row(0, 0, 1);
        x.image(1);
        x.row(1, 0, 1);
        x.feed(32, 1);
        x.restore(1);
        due(2, x.count(0));
        due(1, x.count(6));
    }
}
