/** Edges of ROWS: promises 2 to 5. */
public final class RowEdgeTest extends EdgeTest {
    private static final int ZERO = 1, ABOVE = 0;

    public static void main(String[] args) {
        missing();
        numbersOfRows();
        lanes();
        sizes();
        zeroAtFirst();
        lowestBits();
        places();
        copies();
        copiedPlaces();
        copiedStores();
        drops();
        end();
    }

    /** A rope that bears 0: RISK of one ITEM answers 1 if it is 0, 0 if it is above, BAD if it is below. */
    private static VowRope bare() {
        return told("law 1 0;");
    }

    private static void dueItems(VowRope x, int row, int... items) {
        for (int i = 0; i < items.length; i++) {
            due(items[i] == 0 ? ZERO : items[i] > 0 ? ABOVE : BAD, x.risk(row, i, 1));
        }
        due(PLACE, x.risk(row, items.length, 1));
    }

    private static void setAll(VowRope x, int row, int... items) {
        for (int i = 0; i < items.length; i++) {
            x.set(row, i, items[i]);
        }
    }

    private static void missing() {
        says("ROWS 0 .. 7 are missing (at first)");
        VowRope x = bare();
        due(0, x.count(0));
        for (int r = 0; r < 8; r++) {
            due(NULL, x.set(r, 0, 0));
            due(NULL, x.copy(r, 0, r, 0, 0));
            due(NULL, x.risk(r, 0, 1));
            due(NULL, x.drop(r));
        }
        for (int r = 0; r < 8; r++) {
            due(r, x.count(0));
            due(0, x.row(r, 2, 0));
            due(0, x.copy(r, 0, r, 0, 0));
        }
        due(8, x.count(0));
    }

    private static void numbersOfRows() {
        says("Promise 2, BAD: ROW");
        for (int r : new int[] {-1, 8, MIN, MAX}) {
            VowRope x = bare();
            due(BAD, x.row(r, 0, 1));
            due(0, x.count(0));
            x.row(0, 0, 1);
            x.row(7, 0, 1);
            due(BAD, x.set(r, 0, 1));
            due(BAD, x.copy(r, 0, 0, 0, 1));
            due(BAD, x.copy(0, 0, r, 0, 1));
            due(BAD, x.drop(r));
            due(BAD, x.risk(r, 0, 1));
            due(2, x.count(0));
            dueItems(x, 0, 0);
            dueItems(x, 7, 0);
        }
        VowRope x = new VowRope();
        due(3, x.row(0, 0, 3));
        due(4, x.row(7, 0, 4));
        due(2, x.copy(7, 0, 0, 0, 2));
        due(4, x.drop(7));
        due(3, x.drop(0));
    }

    private static void lanes() {
        says("Promise 2, BAD: LANE (0 bytes, 1 shorts, 2 ints)");
        VowRope x = new VowRope();
        due(BAD, x.row(0, -1, 1));
        due(BAD, x.row(0, 3, 1));
        due(BAD, x.row(0, MIN, 1));
        due(BAD, x.row(0, MAX, 1));
        due(0, x.count(0));
        due(1, x.row(0, 0, 1));
        due(-128, x.set(0, 0, 32896));
        due(1, x.row(0, 1, 1));
        due(-32640, x.set(0, 0, 32896));
        due(1, x.row(0, 2, 1));
        due(32896, x.set(0, 0, 32896));
    }

    private static void sizes() {
        says("0 to 40 ITEMS; BAD: n above 40; SIZE (fewer than none)");
        for (int lane = 0; lane < 3; lane++) {
            VowRope x = new VowRope();
            due(SIZE, x.row(lane, lane, -1));
            due(4, x.status());
            due(SIZE, x.row(lane, lane, MIN));
            due(BAD, x.row(lane, lane, 41));
            due(BAD, x.row(lane, lane, MAX));
            due(0, x.count(0));
            due(0, x.row(lane, lane, 0));
            due(0, x.status());
            due(PLACE, x.set(lane, 0, 1));
            due(1, x.row(lane, lane, 1));
            due(1, x.set(lane, 0, 1));
            due(PLACE, x.set(lane, 1, 1));
            due(39, x.row(lane, lane, 39));
            due(PLACE, x.set(lane, 39, 1));
            due(40, x.row(lane, lane, 40));
            due(1, x.set(lane, 39, 1));
            due(PLACE, x.set(lane, 40, 1));
            due(40, x.drop(lane));
        }
        says("each ROW has 40 ITEMS of its own");
        VowRope x = bare();
        for (int r = 0; r < 8; r++) {
            x.row(r, 2, 40);
        }
        for (int r = 0; r < 8; r += 2) {
            x.set(r, 0, 1);
            x.set(r, 39, 1);
        }
        for (int r = 0; r < 8; r++) {
            due(r % 2 == 0 ? 0 : 40, x.risk(r, 0, 40));
            due(r % 2 == 0 ? 38 : 39, x.risk(r, 1, 39));
        }
    }

    private static void zeroAtFirst() {
        says("ITEMS, 0 at first; a ROW in place of what is there");
        VowRope x = bare();
        x.row(3, 2, 40);
        due(40, x.risk(3, 0, 40));
        for (int i = 0; i < 40; i++) {
            x.set(3, i, 1);
        }
        due(3, x.row(3, 2, 3));
        dueItems(x, 3, 0, 0, 0);
        due(40, x.row(3, 2, 40));
        due(40, x.risk(3, 0, 40));
        x.set(3, 0, 5);
        x.set(3, 39, 5);
        due(40, x.row(3, 2, 40));
        due(40, x.risk(3, 0, 40));
        x.set(3, 20, 5);
        x.drop(3);
        due(40, x.row(3, 0, 40));
        due(40, x.risk(3, 0, 40));
        due(-56, x.set(3, 0, 200));
        due(1, x.count(0));
    }

    private static void lowestBits() {
        says("Promise 3: ITEM i becomes v, its lowest bits, as many as the LANE has: what it is then");
        int[][] bytes = {{0, 0}, {127, 127}, {128, -128}, {255, -1}, {256, 0}, {383, 127}, {384, -128}, {-1, -1},
            {-128, -128}, {-129, 127}, {-256, 0}, {MAX, -1}, {MIN, 0}};
        int[][] shorts = {{0, 0}, {32767, 32767}, {32768, -32768}, {65535, -1}, {65536, 0}, {-1, -1},
            {-32768, -32768}, {-32769, 32767}, {-65536, 0}, {MAX, -1}, {MIN, 0}, {128, 128}};
        int[][] ints = {{0, 0}, {65536, 65536}, {-1, -1}, {MAX, MAX}, {MIN, MIN}};
        int[][][] all = {bytes, shorts, ints};
        for (int lane = 0; lane < 3; lane++) {
            VowRope x = bare();
            x.row(lane, lane, 3);
            for (int[] pair : all[lane]) {
                due(pair[1], x.set(lane, 1, pair[0]));
                dueItems(x, lane, 0, pair[1], 0);
            }
        }
    }

    private static void places() {
        says("Promise 3, PLACE (no such place of a ROW)");
        for (int n : new int[] {0, 1, 2, 39, 40}) {
            VowRope x = bare();
            x.row(0, 2, 40);
            x.row(1, 2, n);
            x.row(2, 2, 40);
            for (int i : new int[] {-1, n, n + 1, MIN, MAX}) {
                due(PLACE, x.set(1, i, 1));
                due(2, x.status());
            }
            due(40, x.risk(0, 0, 40));
            due(40, x.risk(2, 0, 40));
            if (n > 0) {
                due(n, x.risk(1, 0, n));
                due(7, x.set(1, n - 1, 7));
                due(0, x.status());
                due(n - 1, x.risk(1, 0, n));
                due(8, x.set(1, 0, 8));
                due(0, x.risk(1, 0, n));
            }
        }
        says("Promise 3, NULL");
        VowRope x = new VowRope();
        x.row(1, 2, 1);
        due(NULL, x.set(0, 0, 0));
        due(1, x.status());
        due(NULL, x.set(2, 0, 0));
        due(1, x.count(0));
    }

    private static void copies() {
        says("Promise 4: n ITEMS of a from i on come to b from j on, as they were ahead");
        VowRope x = bare();
        x.row(0, 2, 6);
        x.row(1, 2, 6);
        setAll(x, 0, 1, 0, -1, 0, 1, 1);
        due(6, x.copy(0, 0, 1, 0, 6));
        dueItems(x, 1, 1, 0, -1, 0, 1, 1);
        dueItems(x, 0, 1, 0, -1, 0, 1, 1);
        due(5, x.copy(0, 0, 0, 1, 5));
        dueItems(x, 0, 1, 1, 0, -1, 0, 1);
        due(4, x.copy(1, 2, 1, 0, 4));
        dueItems(x, 1, -1, 0, 1, 1, 1, 1);
        due(3, x.copy(1, 0, 1, 0, 3));
        dueItems(x, 1, -1, 0, 1, 1, 1, 1);
        due(1, x.copy(1, 0, 0, 5, 1));
        dueItems(x, 0, 1, 1, 0, -1, 0, -1);
        says("all 40 ITEMS of either end");
        x.row(2, 0, 40);
        x.row(3, 0, 40);
        x.set(2, 0, 1);
        x.set(2, 39, 1);
        due(40, x.copy(2, 0, 3, 0, 40));
        due(0, x.risk(3, 0, 40));
        due(38, x.risk(3, 1, 39));
        due(39, x.copy(3, 1, 3, 0, 39));
        due(38, x.risk(3, 0, 40));
        due(39, x.copy(2, 0, 2, 1, 39));
        due(0, x.risk(2, 1, 39));
        due(38, x.risk(2, 2, 38));
    }

    private static void copiedPlaces() {
        says("Promise 4, PLACE (i, j, n below 0, or beyond an end)");
        VowRope x = bare();
        x.row(0, 2, 5);
        x.row(1, 2, 3);
        setAll(x, 0, 1, 1, 1, 1, 1);
        int[][] wrong = {{-1, 0, 1}, {0, -1, 1}, {0, 0, -1}, {-1, 0, 0}, {0, -1, 0}, {-1, -1, -1}, {3, 0, 3},
            {0, 1, 3}, {0, 0, 4}, {5, 0, 1}, {0, 3, 1}, {6, 0, 0}, {0, 4, 0}, {5, 3, -1}, {4, 0, 2}, {0, 2, 2},
            {MAX, 0, 1}, {0, MAX, 1}, {0, 0, MAX}, {1, 0, MAX}, {0, 1, MAX}, {MAX, MAX, MAX}, {MIN, 0, 1},
            {0, MIN, 1}, {0, 0, MIN}, {MAX, 0, 0}, {0, MAX, 0}, {MIN, MIN, MIN}, {MAX, 0, MIN}};
        for (int[] w : wrong) {
            due(PLACE, x.copy(0, w[0], 1, w[1], w[2]));
            due(2, x.status());
        }
        dueItems(x, 1, 0, 0, 0);
        due(0, x.copy(0, 5, 1, 3, 0));
        due(0, x.status());
        due(0, x.copy(0, 0, 1, 0, 0));
        dueItems(x, 1, 0, 0, 0);
        due(1, x.copy(0, 4, 1, 2, 1));
        dueItems(x, 1, 0, 0, 1);
        due(3, x.copy(0, 2, 1, 0, 3));
        dueItems(x, 1, 1, 1, 1);
        due(PLACE, x.copy(1, 0, 0, 3, 3));
        due(3, x.copy(1, 0, 0, 2, 3));
        x.row(2, 2, 0);
        due(0, x.copy(2, 0, 2, 0, 0));
        due(0, x.copy(0, 0, 2, 0, 0));
        due(PLACE, x.copy(0, 0, 2, 0, 1));
        due(PLACE, x.copy(2, 0, 0, 0, 1));
    }

    private static void copiedStores() {
        says("Promise 4, STORE (ROWS of two LANES)");
        VowRope x = bare();
        for (int lane = 0; lane < 3; lane++) {
            x.row(lane, lane, 2);
            x.row(lane + 3, lane, 2);
            x.set(lane, 0, 1);
        }
        for (int a = 0; a < 6; a++) {
            for (int b = 0; b < 6; b++) {
                if (a % 3 != b % 3) {
                    due(STORE, x.copy(a, 0, b, 0, 2));
                    due(5, x.status());
                    due(STORE, x.copy(a, 0, b, 0, 0));
                }
            }
        }
        for (int lane = 0; lane < 3; lane++) {
            dueItems(x, lane, 1, 0);
            dueItems(x, lane + 3, 0, 0);
            due(2, x.copy(lane, 0, lane + 3, 0, 2));
            due(0, x.status());
            dueItems(x, lane + 3, 1, 0);
        }
        says("Promise 4, NULL");
        due(NULL, x.copy(6, 0, 0, 0, 0));
        due(NULL, x.copy(0, 0, 6, 0, 0));
        due(NULL, x.copy(6, 0, 7, 0, 0));
        due(1, x.status());
    }

    private static void drops() {
        says("Promise 5: A ROW is missing from now on: how many ITEMS it had");
        VowRope x = bare();
        x.row(0, 0, 0);
        x.row(1, 1, 1);
        x.row(7, 2, 40);
        due(0, x.drop(0));
        due(NULL, x.drop(0));
        due(1, x.status());
        due(2, x.count(0));
        due(40, x.drop(7));
        due(0, x.status());
        due(NULL, x.set(7, 0, 0));
        due(NULL, x.copy(7, 0, 1, 0, 0));
        due(NULL, x.copy(1, 0, 7, 0, 0));
        due(NULL, x.risk(7, 0, 1));
        due(1, x.count(0));
        due(1, x.drop(1));
        due(0, x.count(0));
        due(5, x.row(7, 1, 5));
        due(5, x.drop(7));
    }
}
