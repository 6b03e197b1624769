/** One part for each promise; every due answer is reckoned by hand from the document. */
public final class PromiseTest {
    private static final int NONE = -1000000, BAD = -1000001, STATE = -1000002, FULL = -1000003;
    private static final int NULL = -1000011, PLACE = -1000012, KIND = -1000013, SIZE = -1000014, STORE = -1000015;
    private static final int MIN = Integer.MIN_VALUE, MAX = Integer.MAX_VALUE;

    /** HEMP 4, PITCH 3; STRENGTHS 12, 30, 14, 18, 23. */
    private static final String FIVE = "law 4 3;speaker 7 5;speaker 0 11;speaker 10 0;"
        + "yarn vow 0 3;yarn oath 1 5;yarn lie 2 7;yarn hope 0 9;yarn debt 1 2;";

    private static int wrong = 0;
    private static int promise = 0;
    private static int row = 0;

    private static void part(int number) {
        promise = number;
        row = 0;
    }

    private static void due(int want, int got) {
        row++;
        if (got != want) {
            wrong++;
            System.out.println("promise " + promise + ", row " + row + ": answered " + got + ", due is " + want);
        }
    }

    private static void feedText(VowRope x, String text) {
        for (int k = 0; k < text.length(); k++) {
            x.feed(text.charAt(k), 1);
        }
    }

    private static int walkOf(VowRope x, String text) {
        feedText(x, text);
        return x.walk();
    }

    private static VowRope told(String text) {
        VowRope x = new VowRope();
        if (walkOf(x, text) < 0) {
            throw new IllegalStateException(text);
        }
        return x;
    }

    private static void dueFault(VowRope x, String text, int place, int number) {
        due(-1000100 - place, walkOf(x, text));
        due(number, x.fault());
        due(0, x.count(6));
    }

    private static String times(String text, int n) {
        return text.repeat(n);
    }

    public static void main(String[] args) {
        newObject();
        rowCalls();
        tapeCalls();
        faults();
        acts();
        strengths();
        pulls();
        years();
        undone();
        foretold();
        images();
        asked();
        counted();
        findings();
        if (wrong > 0) {
            System.exit(1);
        }
    }

    private static void newObject() {
        part(1);
        VowRope x = new VowRope();
        for (int what = 0; what <= 6; what++) {
            due(0, x.count(what));
        }
        due(STATE, x.bears(0));
        due(STATE, x.bears(-1));
        due(0, x.fault());
        due(0, x.status());
        due(NONE, x.trace(0));
        due(STATE, x.restore(0));
        due(STATE, x.undo());
        due(NONE, VowRope.NONE);
        due(BAD, VowRope.BAD);
        due(STATE, VowRope.STATE);
        due(FULL, VowRope.FULL);
    }

    private static void rowCalls() {
        part(2);
        VowRope x = new VowRope();
        due(0, x.row(0, 0, 0));
        due(40, x.row(7, 2, 40));
        due(BAD, x.row(-1, 0, 1));
        due(BAD, x.row(8, 0, 1));
        due(BAD, x.row(0, -1, 1));
        due(BAD, x.row(0, 3, 1));
        due(BAD, x.row(0, 0, 41));
        due(BAD, x.row(0, 0, MAX));
        due(BAD, x.row(8, 0, -1));
        due(BAD, x.row(0, 3, -1));
        due(SIZE, x.row(0, 0, -1));
        due(SIZE, x.row(7, 0, MIN));
        due(2, x.count(0));
        due(9, x.set(7, 39, 9));
        due(40, x.row(7, 2, 40));
        due(1, x.row(6, 2, 1));
        due(1, x.copy(7, 39, 6, 0, 1));
        walkOf(x, FIVE);
        due(1, x.risk(6, 0, 1));

        part(3);
        x = new VowRope();
        x.row(0, 0, 3);
        x.row(1, 1, 3);
        x.row(2, 2, 3);
        due(127, x.set(0, 0, 127));
        due(-128, x.set(0, 0, 128));
        due(-1, x.set(0, 2, 255));
        due(0, x.set(0, 2, 256));
        due(32767, x.set(1, 0, 32767));
        due(-32768, x.set(1, 0, 32768));
        due(-1, x.set(1, 1, 65535));
        due(MIN, x.set(2, 2, MIN));
        due(MAX, x.set(2, 2, MAX));
        due(BAD, x.set(-1, 0, 1));
        due(BAD, x.set(8, 99, 1));
        due(NULL, x.set(3, 0, 1));
        due(NULL, x.set(3, -1, 1));
        due(PLACE, x.set(2, -1, 1));
        due(PLACE, x.set(2, 3, 1));
        due(PLACE, x.set(2, MAX, 1));
        due(PLACE, x.set(2, MIN, 1));
        x.row(4, 2, 0);
        due(PLACE, x.set(4, 0, 1));

        part(4);
        copies();

        part(5);
        x = new VowRope();
        x.row(3, 1, 17);
        due(BAD, x.drop(-1));
        due(BAD, x.drop(8));
        due(NULL, x.drop(2));
        due(17, x.drop(3));
        due(0, x.status());
        due(NULL, x.drop(3));
        due(0, x.count(0));
        due(NULL, x.set(3, 0, 0));
    }

    /** What a ROW holds is told by RISK: a rope that bears 0 bears the loads 0, ahead of others. */
    private static void copies() {
        VowRope x = told("law 1 0;");
        x.row(0, 2, 5);
        x.row(1, 2, 4);
        x.row(2, 1, 4);
        for (int i = 0; i < 5; i++) {
            x.set(0, i, i == 2 ? 1 : 0);
        }
        due(3, x.copy(0, 0, 1, 1, 3));
        due(3, x.risk(1, 0, 4));
        due(2, x.copy(0, 2, 0, 3, 2));
        due(2, x.risk(0, 0, 5));
        due(1, x.set(0, 2, 1));
        due(0, x.risk(0, 3, 2));
        due(1, x.risk(0, 4, 1));
        x.row(3, 2, 4);
        x.set(3, 1, 1);
        due(3, x.copy(3, 0, 3, 1, 3));
        due(2, x.risk(3, 0, 4));
        due(3, x.copy(3, 1, 3, 0, 3));
        due(1, x.risk(3, 0, 4));
        due(0, x.copy(0, 5, 1, 4, 0));
        due(0, x.status());
        due(PLACE, x.copy(0, 6, 1, 0, 0));
        due(2, x.status());
        due(PLACE, x.copy(0, 0, 1, 5, 0));
        due(PLACE, x.copy(0, -1, 1, 0, 1));
        due(PLACE, x.copy(0, 0, 1, -1, 1));
        due(PLACE, x.copy(0, 0, 1, 0, -1));
        due(PLACE, x.copy(0, 0, 1, 0, 5));
        due(PLACE, x.copy(1, 0, 0, 0, 5));
        due(PLACE, x.copy(0, 1, 1, 0, MAX));
        due(PLACE, x.copy(0, MAX, 1, 0, 1));
        due(PLACE, x.copy(0, 0, 1, MAX, 1));
        due(PLACE, x.copy(0, 0, 1, 0, MIN));
        due(STORE, x.copy(0, 0, 2, 0, 1));
        due(STORE, x.copy(0, -1, 2, 0, 1));
        due(5, x.status());
        due(NULL, x.copy(0, 0, 7, 0, 1));
        due(NULL, x.copy(7, -1, 2, 0, 1));
        due(BAD, x.copy(8, 0, 7, 0, 1));
        due(BAD, x.copy(7, 0, -1, 0, 1));
        due(1, x.status());
    }

    private static void tapeCalls() {
        part(6);
        VowRope x = new VowRope();
        due(BAD, x.feed(0, 0));
        due(BAD, x.feed(0, 9));
        due(BAD, x.feed(0, -1));
        due(0, x.count(6));
        for (int k = 1; k <= 49; k++) {
            due(8 * k, x.feed(0x2020202020202020L, 8));
        }
        due(395, x.feed(0x202020, 3));
        due(FULL, x.feed(0x202020202020L, 6));
        due(395, x.count(6));
        due(400, x.feed(0x2020202020L, 5));
        due(FULL, x.feed(0, 1));
        due(BAD, x.feed(0, 9));
        due(-1000500, x.walk());
        due(0, x.count(6));
        // what lies above the lowest n bytes does not come
        due(3, x.feed(0x1111111111000000L + 0x6C6177, 3));
        due(8, x.feed(0x2031203020L, 5));
        due(9, x.feed(0xFFFFFFFFFFFFFF3BL, 1));
        due(0, x.walk());
        due(STATE, new VowRope().best(-1));
        due(0, x.best(-1));

        part(7);
        x = new VowRope();
        due(0, walkOf(x, "law 1 0;"));
        due(0, walkOf(x, "law 50 20;"));
        due(0, walkOf(x, "\n law\n\n001 020\n;\n "));
        due(5, walkOf(x, FIVE));
        due(5, walkOf(x, "law4 3;speaker7 5;speaker0 11;speaker10 0;yarn\nvow0 3;yarn oath 1 5;"
            + "yarn lie2 7;yarn hope 0 9;yarn debt1 2;"));
        due(9, walkOf(x, "law 1 0;" + times("speaker 10 99;", 5) + times("yarn hope 4 9;", 9)));
        due(5, x.count(1));
        x.lay(0, 1);
        x.vow(1, 2);
        x.pitch(2);
        due(3, x.count(4));
        due(5, walkOf(x, FIVE));
        due(0, x.count(3));
        due(0, x.count(4));
        due(0, x.count(5));
        due(0, x.yarn(2, 6));
        due(3, x.count(1));
        // behind a FAULT the WALK and its ACTS are as they were
        x.lay(0, 1);
        dueFault(x, "law 9 9;speaker 1 1;yarn vow 0 1;yarn", 37, 1);
        due(5, x.count(2));
        due(3, x.count(1));
        due(1, x.yarn(0, 3));
        due(12, x.yarn(0, 2));
        due(1, x.count(4));

        part(8);
        x = new VowRope();
        due(0, x.fault());
        walkOf(x, "law 1 0;");
        due(0, x.fault());
        walkOf(x, "law 0 0;");
        due(2, x.fault());
        walkOf(x, "law 1 0;");
        due(2, x.fault());
        walkOf(x, "law;");
        due(1, x.fault());
    }

    private static void faults() {
        part(7);
        VowRope x = new VowRope();
        String one = "law 1 0;speaker 0 0;";
        dueFault(x, "", 0, 1);
        dueFault(x, "  \n", 3, 1);
        dueFault(x, " lawn 1 0;", 1, 1);
        dueFault(x, "lawz 1 0;", 0, 1);
        dueFault(x, "alaw 1 0;", 0, 1);
        dueFault(x, "la", 0, 1);
        dueFault(x, "Law 1 0;", 0, 1);
        dueFault(x, "law\t1 0;", 3, 1);
        dueFault(x, "law 0 0;", 4, 2);
        dueFault(x, "law 51 0;", 4, 2);
        dueFault(x, "law 1 21;", 6, 2);
        dueFault(x, "law 0000 0;", 4, 1);
        dueFault(x, "law 999999999999 0;", 4, 1);
        dueFault(x, "law a 0;", 4, 1);
        dueFault(x, "law -1 0;", 4, 1);
        dueFault(x, "law 1 0", 7, 1);
        dueFault(x, "law 1 0  ", 9, 1);
        dueFault(x, "law 1 0 0;", 8, 1);
        dueFault(x, "law 1 0;law 1 0;", 8, 1);
        dueFault(x, "law 1 0;speakers 0 0;", 8, 1);
        dueFault(x, "law 1 0;yarns vow 0 0;", 8, 1);
        dueFault(x, "law 1 0;" + (char) 236, 8, 1);
        dueFault(x, "law 1 0;speaker 11 0;", 16, 2);
        dueFault(x, "law 1 0;speaker 0 100;", 18, 2);
        dueFault(x, "law 1 0;speaker 0 ;", 18, 1);
        dueFault(x, "law 1 0;yarn vow 0 1;", 17, 2);
        dueFault(x, one + "yarn vows 0 1;", 25, 1);
        dueFault(x, one + "yarn 0 1;", 25, 1);
        dueFault(x, one + "yarn vow 1 1;", 29, 2);
        dueFault(x, one + "yarn vow 0 0;", 31, 2);
        dueFault(x, one + "yarn vow 0 10;", 31, 2);
        dueFault(x, one + "yarn vow 0 1;speaker 0 0;", 33, 1);
        dueFault(x, "law 1 0;" + times("speaker 0 0;", 6), 68, 3);
        dueFault(x, "law 1 0;" + times("speaker 0 0;", 5) + "speaker", 68, 3);
        dueFault(x, one + times("yarn vow 0 1;", 9) + "yarn", 137, 3);
        dueFault(x, one + times("yarn vow 0 1;", 9) + "speaker", 137, 1);
        dueFault(x, "law 1 0;" + times("speaker 0 0;", 5) + "yarn vow 4 1;speaker", 81, 1);
    }

    private static void acts() {
        part(9);
        VowRope x = told(FIVE);
        due(BAD, x.lay(-1, 0));
        due(BAD, x.lay(5, 0));
        due(BAD, x.lay(0, -2));
        due(BAD, x.lay(0, 3));
        due(0, x.count(4));
        due(-1, x.lay(0, 2));
        due(2, x.lay(0, 0));
        due(0, x.lay(0, 0));
        due(0, x.lay(0, -1));
        due(-1, x.lay(0, -1));
        due(5, x.count(4));
        due(BAD, new VowRope().lay(0, 0));

        part(10);
        due(BAD, x.pitch(-1));
        due(BAD, x.pitch(5));
        due(15, x.pitch(0));
        due(STATE, x.pitch(0));
        due(6, x.count(4));
        due(33, x.pitch(1));
        x.vow(2, 2);
        due(0, x.pitch(2));
        due(0, x.vow(3, 1));
        due(31, x.pitch(3));
        due(BAD, new VowRope().pitch(0));

        part(11);
        x = told(FIVE);
        due(BAD, x.vow(5, 0));
        due(BAD, x.vow(-1, 0));
        due(BAD, x.vow(0, -1));
        due(BAD, x.vow(0, 3));
        due(0, x.vow(0, 2));
        due(2, x.vow(0, 1));
        due(1, x.vow(0, 0));
        due(0, x.vow(0, 0));
        due(4, x.count(4));

        part(12);
        x = told(FIVE);
        due(BAD, x.splice(-1));
        due(BAD, x.splice(5));
        x.lay(1, 0);
        due(1, x.pull(9, 1));
        due(0, x.splice(1));
        x.lay(2, 1);
        x.lay(3, 2);
        due(NONE, x.pull(0, 1));
        due(NONE, x.pull(0, 1));
        due(2, x.yarn(1, 5));
        due(28, x.yarn(1, 2));
        due(2, x.splice(1));
        due(30, x.yarn(1, 2));
        due(0, x.splice(1));
        due(0, x.splice(0));
    }

    private static void strengths() {
        part(16);
        VowRope x = told(FIVE);
        int[] strength = {12, 30, 14, 18, 23};
        int[] speaker = {0, 1, 2, 0, 1};
        int[] length = {3, 5, 7, 9, 2};
        for (int y = 0; y < 5; y++) {
            due(speaker[y], x.yarn(y, 0));
            due(length[y], x.yarn(y, 1));
            due(strength[y], x.yarn(y, 2));
            due(-1, x.yarn(y, 3));
            due(0, x.yarn(y, 4));
            due(0, x.yarn(y, 5));
            due(0, x.yarn(y, 6));
        }
        due(BAD, x.yarn(0, 7));
        due(BAD, x.yarn(0, -1));
        due(BAD, x.yarn(5, 0));
        due(BAD, x.yarn(-1, 0));
        due(BAD, new VowRope().yarn(0, 0));
        // all that is cut: 7 by 2 is 3; an odd STRENGTH that is KEPT
        x = told("law 7 20;speaker 0 99;yarn oath 0 1;yarn debt 0 1;yarn lie 0 1;yarn hope 0 3;yarn vow 0 1;");
        due(10, x.yarn(0, 2));
        due(109, x.yarn(1, 2));
        due(3, x.yarn(2, 2));
        due(10, x.yarn(3, 2));
        due(7, x.yarn(4, 2));
        x.vow(1, 1);
        due(163, x.yarn(1, 2));
        due(193, x.pitch(1));
        due(1, x.yarn(1, 6));
        x.vow(2, 1);
        due(4, x.yarn(2, 2));
        x.vow(4, 2);
        due(0, x.yarn(4, 2));
        x.lay(2, 0);
        due(1, x.pull(9999, 5));
        x.lay(3, 1);
        x.lay(0, 2);
        for (int k = 0; k < 5; k++) {
            x.pull(0, 5);
        }
        due(0, x.yarn(2, 2));
        // three pulls wear 1 each, the fourth parts: 5 more; strand 0 is empty then
        due(8, x.yarn(2, 5));
        due(-1, x.yarn(2, 3));

        part(17);
        x = told(FIVE);
        due(0, x.bears(0));
        due(0, x.bears(3));
        x.lay(0, 0);
        x.lay(1, 0);
        x.lay(2, 1);
        x.lay(3, 2);
        due(42, x.bears(0));
        due(14, x.bears(1));
        due(18, x.bears(2));
        due(42, x.bears(3));
        x.lay(4, 1);
        due(37, x.bears(1));
        due(54, x.bears(3));
        due(BAD, x.bears(-1));
        due(BAD, x.bears(4));
        due(STATE, new VowRope().bears(4));
    }

    private static void pulls() {
        part(13);
        // a DRAW of 10 from SEED 1 is 7: 16807; from SEED 2 it is 4: 33614; from SEED 10 it is 0: 168070
        VowRope x = told("law 10 0;speaker 5 5;" + times("yarn vow 0 1;", 3));
        due(0, x.pull(0, 1));
        due(NONE, x.pull(0, 10));
        x.lay(0, 0);
        x.lay(1, 1);
        x.lay(2, 2);
        due(NONE, x.pull(23, 1));
        due(1, x.yarn(0, 5));
        due(27, x.bears(3));
        due(0, x.pull(21, 1));
        due(6, x.yarn(0, 5));
        due(1, x.yarn(1, 5));
        due(-1, x.yarn(0, 3));
        due(1, x.yarn(1, 3));
        x.undo();
        due(NONE, x.pull(20, 1));
        x.lay(0, 1);
        due(0, x.pull(3, 1));
        due(2, x.yarn(0, 5));
        x.lay(0, 0);
        x.vow(2, 2);
        due(2, x.pull(9999, 999999));
        due(7, x.yarn(2, 5));
        due(BAD, x.pull(-1, 1));
        due(BAD, x.pull(10000, 1));
        due(BAD, x.pull(0, 0));
        due(BAD, x.pull(0, 1000000));
        due(BAD, x.pull(0, -1));
        due(STATE, new VowRope().pull(-1, 0));
        // of the weakest the first parts
        x = told("law 10 0;speaker 5 5;" + times("yarn vow 0 1;", 3) + "yarn oath 0 9;");
        x.lay(3, 0);
        x.lay(0, 1);
        x.lay(1, 2);
        due(1, x.pull(9999, 3));
    }

    private static void years() {
        part(14);
        // DRAWS of 10 from SEED 1 on: 16807, 282475249, 1622650073, 984943658: 7, 9, 3, 8
        VowRope x = told("law 1 0;speaker 9 0;speaker 8 0;speaker 3 0;speaker 4 0;yarn vow 1 1;yarn oath 2 1;"
            + "yarn debt 0 1;yarn lie 0 1;yarn hope 2 1;yarn vow 0 1;");
        due((1 << 2) + (1 << 3) + (1 << 4), x.year(1));
        due(1, x.yarn(0, 4));
        due(1, x.yarn(1, 4));
        due(2, x.yarn(2, 4));
        due(2, x.yarn(3, 4));
        due(2, x.yarn(4, 4));
        due(1, x.yarn(5, 4));
        due(0, x.year(1));
        due(2, x.count(4));
        x.undo();
        x.undo();
        // vows that are not doubted take no draw
        x.vow(0, 1);
        x.vow(3, 1);
        x.vow(5, 2);
        due(1 << 4, x.year(1));
        due(1, x.yarn(2, 4));
        due(1, x.yarn(3, 4));
        due(2, x.yarn(5, 4));
        due(BAD, x.year(0));
        due(BAD, x.year(1000000));
        due(BAD, x.year(-5));
        due(STATE, new VowRope().year(0));
        x = told("law 1 0;speaker 10 0;speaker 0 0;yarn vow 0 1;yarn hope 0 1;yarn debt 1 1;yarn vow 1 1;");
        due(12, x.year(999999));
    }

    private static void undone() {
        part(15);
        VowRope x = told(FIVE);
        due(STATE, x.undo());
        x.lay(0, 0);
        x.lay(0, 1);
        x.pitch(0);
        x.vow(0, 1);
        x.lay(1, 0);
        x.lay(3, 2);
        x.pull(0, 3);
        x.splice(0);
        x.year(7);
        x.pull(9999, 3);
        due(9, x.undo());
        due(1, x.yarn(0, 3));
        due(8, x.undo());
        due(0, x.yarn(2, 4));
        due(0, x.yarn(0, 5));
        due(7, x.undo());
        due(1, x.yarn(0, 5));
        due(6, x.undo());
        due(0, x.yarn(1, 5));
        due(5, x.undo());
        due(4, x.undo());
        due(22, x.yarn(0, 2));
        due(3, x.undo());
        due(15, x.yarn(0, 2));
        due(2, x.undo());
        due(12, x.yarn(0, 2));
        due(1, x.undo());
        due(0, x.yarn(0, 3));
        due(0, x.undo());
        due(-1, x.yarn(0, 3));
        due(STATE, x.undo());
        // of 27 ACTS the oldest three cannot be undone
        for (int k = 0; k < 27; k++) {
            x.vow(0, (k + 1) % 3);
        }
        due(24, x.count(4));
        for (int k = 23; k >= 0; k--) {
            due(k, x.undo());
            due((k + 3) % 3, x.yarn(0, 4));
        }
        due(STATE, x.undo());
        // refusals are no ACTS
        x.lay(9, 9);
        x.pull(-1, 1);
        due(0, x.count(4));
    }

    private static void foretold() {
        part(18);
        VowRope x = told("law 1 0;speaker 5 1;yarn vow 0 9;yarn vow 0 1;yarn vow 0 8;yarn vow 0 7;yarn vow 0 2;");
        due(27, x.best(-1));
        int[] strands = {0, 1, 1, 2, 2};
        for (int k = 0; k < 5; k++) {
            due(strands[k], x.best(k));
        }
        due(-1, x.yarn(0, 3));
        due(BAD, x.best(5));
        due(BAD, x.best(-2));
        due(STATE, new VowRope().best(9));
        x.vow(0, 2);
        due(9, x.best(-1));
        due(0, told("law 1 0;").best(-1));
        due(BAD, told("law 1 0;").best(0));
        x = told("law 1 0;speaker 5 1;yarn vow 0 9;yarn vow 0 9;");
        due(0, x.best(-1));
        due(0, x.best(0));
        due(0, x.best(1));

        part(19);
        x = told("law 1 0;speaker 5 1;speaker 5 0;yarn vow 0 3;yarn vow 0 3;yarn vow 0 3;yarn vow 0 3;yarn vow 1 2;");
        due(0, x.cheapest(0, 0));
        due(0, x.cheapest(0, 1));
        due(6, x.cheapest(1, 0));
        due(19, x.cheapest(1, 1));
        due(19, x.cheapest(6, 1));
        due(9, x.cheapest(7, 0));
        due(7, x.cheapest(7, 1));
        due(7, x.cheapest(9, 1));
        due(NONE, x.cheapest(10, 0));
        due(NONE, x.cheapest(9999, 1));
        due(BAD, x.cheapest(-1, 0));
        due(BAD, x.cheapest(10000, 0));
        due(BAD, x.cheapest(0, 2));
        due(BAD, x.cheapest(0, -1));
        due(STATE, new VowRope().cheapest(-1, 9));
        due(0, told("law 1 0;").cheapest(0, 1));
        due(NONE, told("law 1 0;").cheapest(1, 0));

        part(20);
        x = told("law 2 0;speaker 5 1;speaker 3 0;yarn vow 0 1;yarn hope 1 2;yarn oath 0 1;yarn vow 0 9;yarn lie 0 9;");
        x.lay(0, 0);
        x.lay(1, 1);
        x.lay(2, 2);
        due(3, x.odds(9, 0));
        due(20, x.odds(9, 1));
        due(0, x.odds(10, 0));
        due(1, x.odds(10, 1));
        due(1, x.odds(0, 0));
        due(1, x.odds(0, 1));
        x.vow(0, 1);
        due(3, x.odds(1, 0));
        due(10, x.odds(1, 1));
        x.vow(2, 2);
        due(0, x.odds(1, 0));
        due(1, x.odds(1, 1));
        x.vow(2, 0);
        x.lay(4, 1);
        due(3, x.odds(9, 0));
        x.vow(4, 1);
        due(1, x.odds(9, 0));
        due(1, x.odds(9, 1));
        due(BAD, x.odds(-1, 0));
        due(BAD, x.odds(10000, 0));
        due(BAD, x.odds(0, 2));
        due(BAD, x.odds(0, -1));
        due(STATE, new VowRope().odds(-1, 0));

        part(21);
        risks();
        part(22);
        lies();

        part(23);
        x = told("law 1 0;speaker 5 1;" + times("yarn vow 0 1;", 9));
        int[] tests = {0, 1, 2, 2, 3, 3, 3, 3, 4};
        for (int n = 1; n <= 9; n++) {
            due(tests[n - 1], x.geese((1 << n) - 1));
        }
        due(0, x.geese(256));
        due(1, x.geese(257));
        due(BAD, x.geese(0));
        due(BAD, x.geese(512));
        due(BAD, x.geese(-1));
        due(BAD, x.geese(MIN));
        due(BAD, told("law 1 0;").geese(1));
        due(STATE, new VowRope().geese(0));

        part(24);
        x = told(FIVE);
        due(0, x.fathoms(0));
        x.vow(0, 1);
        x.vow(3, 1);
        x.vow(1, 1);
        x.vow(4, 2);
        due(12, x.fathoms(0));
        due(5, x.fathoms(1));
        due(0, x.fathoms(2));
        due(BAD, x.fathoms(3));
        due(BAD, x.fathoms(-1));
        due(BAD, new VowRope().fathoms(0));
    }

    private static void risks() {
        VowRope x = new VowRope();
        due(STATE, x.risk(9, 0, 0));
        walkOf(x, FIVE);
        x.lay(0, 0);
        x.lay(1, 1);
        x.lay(2, 2);
        x.row(0, 2, 4);
        x.set(0, 0, 36);
        x.set(0, 1, 0);
        x.set(0, 2, 37);
        x.set(0, 3, 1);
        due(2, x.risk(0, 0, 4));
        due(1, x.risk(0, 0, 1));
        due(0, x.risk(0, 2, 2));
        due(1, x.risk(0, 3, 1));
        due(0, x.status());
        due(BAD, x.risk(-1, 0, 1));
        due(BAD, x.risk(8, 0, 1));
        due(BAD, x.risk(0, 0, 0));
        due(BAD, x.risk(0, 0, 41));
        due(BAD, x.risk(0, 0, -1));
        due(BAD, x.risk(1, 0, 0));
        due(NULL, x.risk(1, -1, 1));
        due(1, x.status());
        due(PLACE, x.risk(0, -1, 1));
        due(PLACE, x.risk(0, 0, 5));
        due(PLACE, x.risk(0, 4, 1));
        due(PLACE, x.risk(0, MAX, 40));
        due(2, x.status());
        x.set(0, 3, -1);
        due(BAD, x.risk(0, 0, 4));
        due(0, x.status());
        due(PLACE, x.risk(0, 3, 2));
        due(BAD, x.risk(0, 3, 1));
        due(2, x.status());
        due(2, x.risk(0, 0, 3));
        x.set(0, 3, MAX);
        due(0, x.risk(0, 3, 1));
        x.row(1, 0, 40);
        due(40, x.risk(1, 0, 40));
        x.row(7, 2, 40);
        due(40, x.risk(7, 0, 40));
    }

    private static void lies() {
        // STRENGTHS 12, 30, 14, 18, 23: strands 42, 14, 41
        VowRope x = told(FIVE);
        x.lay(0, 0);
        x.lay(1, 0);
        x.lay(2, 1);
        x.lay(3, 2);
        x.lay(4, 2);
        due(4, x.whose(0, 1));
        due(4, x.whose(0, 36));
        due(6, x.whose(0, 37));
        due(2, x.whose(36, 37));
        due(0, x.whose(37, 42));
        due(25, x.whose(37, 43));
        due(31, x.whose(0, 9999));
        due(0, x.whose(43, 9999));
        x.vow(2, 2);
        due(27, x.whose(0, 1));
        x.lay(0, -1);
        due(26, x.whose(0, 1));
        due(BAD, x.whose(1, 1));
        due(BAD, x.whose(2, 1));
        due(BAD, x.whose(-1, 1));
        due(BAD, x.whose(0, 10000));
        due(BAD, x.whose(9999, 10000));
        due(0, x.whose(9998, 9999));
        due(STATE, new VowRope().whose(1, 1));
    }

    private static void images() {
        part(25);
        VowRope x = new VowRope();
        due(BAD, x.image(-1));
        due(BAD, x.image(2));
        due(STATE, x.image(0));
        due(STATE, x.restore(0));
        walkOf(x, FIVE);
        x.lay(0, 1);
        x.pitch(0);
        x.vow(1, 1);
        due(1, x.image(1));
        due(3, x.count(4));
        due(STATE, x.restore(0));
        due(3, x.count(4));

        part(26);
        due(BAD, x.restore(-1));
        due(BAD, x.restore(2));
        x.lay(0, -1);
        x.vow(1, 2);
        due(1, x.restore(1));
        due(0, x.count(4));
        due(STATE, x.undo());
        due(1, x.yarn(0, 3));
        due(1, x.yarn(0, 6));
        due(1, x.yarn(1, 4));
        walkOf(x, "law 9 9;speaker 1 1;yarn hope 0 1;");
        due(1, x.count(2));
        due(1, x.image(0));
        due(1, x.restore(1));
        due(5, x.count(2));
        due(3, x.count(1));
        due(15, x.yarn(0, 2));
        // an image stays as it was kept, whatever is done behind it
        x.vow(0, 2);
        due(1, x.restore(1));
        due(0, x.yarn(0, 4));
        due(1, x.restore(0));
        due(1, x.count(2));
        due(4, x.yarn(0, 2));
        due(5, x.kind(0));
        due(1, x.image(1));
        due(1, x.restore(1));
        due(1, x.count(2));
    }

    private static void asked() {
        part(27);
        VowRope x = told(FIVE);
        int[] kinds = {1, 2, 4, 5, 3};
        for (int y = 0; y < 5; y++) {
            due(kinds[y], x.kind(y));
        }
        due(BAD, x.kind(-1));
        due(BAD, x.kind(5));
        due(BAD, new VowRope().kind(0));

        part(28);
        int[] sets = {0b000011, 0b000111, 0b010001, 0b110001, 0b001111};
        for (int y = 0; y < 5; y++) {
            for (int kind = 0; kind < 6; kind++) {
                boolean is = (sets[y] >> kind & 1) == 1;
                due(is ? y : KIND, x.as(y, kind));
                due(is ? 0 : 3, x.status());
            }
        }
        due(BAD, x.as(0, -1));
        due(BAD, x.as(0, 6));
        due(BAD, x.as(5, 0));
        due(BAD, x.as(-1, 5));
        due(BAD, new VowRope().as(0, 0));

        part(29);
        dueAsk(x, 0, 0, 3, 11, 10, 21, 20);
        dueAsk(x, 0, 1, 0, 21, 20);
        dueAsk(x, 1, 0, -993, 11, 10, 22, 21, 20);
        dueAsk(x, 1, 1, -998, 22, 21, 20);
        dueAsk(x, 2, 0, -93, 13, 10);
        dueAsk(x, 2, 1, 95, 23, 20, 13, 10);
        dueAsk(x, 3, 0, -182, 14, 13, 10);
        dueAsk(x, 3, 1, 185, 23, 20, 14, 13, 10);
        dueAsk(x, 4, 0, 1988, 12, 11, 10, 24, 22, 21, 20);
        dueAsk(x, 4, 1, -1990, 24, 22, 21, 20);
        due(BAD, x.ask(5, 0));
        due(BAD, x.ask(-1, 0));
        due(BAD, x.ask(0, 2));
        due(BAD, x.ask(0, -1));

        part(30);
        due(24, x.trace(0));
        due(20, x.trace(3));
        due(NONE, x.trace(4));
        due(NONE, x.trace(-1));
        due(NONE, x.trace(16));
        due(NONE, x.trace(MAX));
        due(NONE, x.trace(MIN));
        due(0, x.ask(0, 1));
        due(21, x.trace(0));
        due(NONE, x.trace(2));
    }

    private static void dueAsk(VowRope x, int yarn, int what, int want, int... begun) {
        due(want, x.ask(yarn, what));
        for (int k = 0; k < begun.length; k++) {
            due(begun[k], x.trace(k));
        }
        due(NONE, x.trace(begun.length));
    }

    private static void counted() {
        part(31);
        VowRope x = told(FIVE);
        x.row(0, 0, 0);
        x.row(5, 1, 7);
        x.row(5, 1, 8);
        x.lay(0, 0);
        x.lay(1, 2);
        x.lay(2, 2);
        x.lay(0, -1);
        x.vow(4, 2);
        x.feed(0, 7);
        int[] counts = {2, 3, 5, 2, 5, 1, 7};
        for (int what = 0; what < 7; what++) {
            due(counts[what], x.count(what));
        }
        due(BAD, x.count(7));
        due(BAD, x.count(-1));
        x.drop(5);
        due(1, x.count(0));
    }

    private static void findings() {
        part(32);
        VowRope x = told(FIVE);
        due(0, x.status());
        x.row(0, 0, -1);
        due(4, x.status());
        due(0, x.count(0));
        x.row(9, 0, -1);
        x.row(0, 0, 41);
        due(4, x.status());
        x.row(0, 0, 2);
        due(0, x.status());
        x.set(0, 2, 0);
        due(2, x.status());
        x.set(9, 0, 0);
        x.copy(0, 0, 9, 0, 0);
        x.drop(9);
        x.as(9, 9);
        x.risk(9, 0, 0);
        x.feed(0, 9);
        x.lay(0, 0);
        due(2, x.status());
        x.set(0, 1, 5);
        due(0, x.status());
        x.set(1, 0, 0);
        due(1, x.status());
        x.row(1, 2, 2);
        x.copy(0, 0, 1, 0, 1);
        due(5, x.status());
        x.as(0, 0);
        due(0, x.status());
        x.as(0, 5);
        due(3, x.status());
        x.kind(0);
        x.ask(0, 0);
        x.bears(0);
        due(3, x.status());
        x.drop(1);
        due(0, x.status());
        x.drop(1);
        due(1, x.status());
        x.risk(0, 0, 2);
        due(0, x.status());
        // a row that is refused, or found, stays as it was
        x.row(0, 2, -1);
        due(2, x.drop(0));
    }
}
