/** Edges of KINDS, ASKS, THE TRACE, counts and status(): promises 27 to 32, and of a new object: promise 1. */
public final class AskedEdgeTest extends EdgeTest {
    /** A vow, an oath, a debt, a lie, a hope: KINDS 1 to 5. */
    private static final String SORTS = "law 1 0;speaker 0 0;speaker 0 0;yarn vow 1 3;yarn oath 1 4;yarn debt 1 5;"
        + "yarn lie 1 6;yarn hope 1 7;";

    public static void main(String[] args) {
        newObject();
        kinds();
        taken();
        asks();
        lastYarn();
        askNumbers();
        trace();
        traceStays();
        counts();
        mostCounts();
        status();
        twoObjects();
        end();
    }

    private static void newObject() {
        says("Promise 1: No WALK");
        VowRope x = new VowRope();
        for (int what = 0; what <= 6; what++) {
            due(0, x.count(what));
        }
        due(0, x.fault());
        due(0, x.status());
        due(NONE, x.trace(0));
        due(STATE, x.bears(3));
        due(STATE, x.pull(0, 1));
        due(STATE, x.year(1));
        due(STATE, x.undo());
        due(STATE, x.image(0));
        due(STATE, x.restore(0));
        due(BAD, x.fathoms(0));
        due(BAD, x.kind(0));
        due(BAD, x.as(0, 0));
        due(BAD, x.ask(0, 0));
    }

    private static void kinds() {
        says("Promise 27: The KIND of a YARN, as told (1 to 5). BAD");
        VowRope x = told(SORTS);
        for (int y = 0; y < 5; y++) {
            due(y + 1, x.kind(y));
        }
        for (int y : new int[] {-1, 5, MIN, MAX}) {
            due(BAD, x.kind(y));
        }
        x = told("law 1 0;speaker 0 0;" + yarns(8, "vow 0 1") + "yarn hope 0 1;");
        due(5, x.kind(8));
        due(BAD, x.kind(9));
        due(BAD, told("law 1 0;").kind(0));
    }

    private static void taken() {
        says("Promise 28: A YARN is taken as one of a KIND (0 .. 5): its number. KIND: it is no such one");
        VowRope x = told(SORTS);
        String[] are = {"01", "012", "0123", "04", "045"};
        for (int y = 0; y < 5; y++) {
            for (int kind = 0; kind < 6; kind++) {
                boolean is = are[y].indexOf('0' + kind) >= 0;
                due(is ? y : KIND, x.as(y, kind));
                due(is ? 0 : 3, x.status());
            }
        }
        says("Promise 28, BAD");
        for (int kind : new int[] {-1, 6, MIN, MAX}) {
            due(BAD, x.as(0, kind));
            due(BAD, x.as(4, kind));
            due(0, x.status());
        }
        for (int y : new int[] {-1, 5, MIN, MAX}) {
            due(BAD, x.as(y, 0));
            due(BAD, x.as(y, 5));
        }
        x = told("law 1 0;speaker 0 0;" + yarns(8, "vow 0 1") + "yarn hope 0 1;");
        due(8, x.as(8, 5));
        due(KIND, x.as(8, 1));
        due(BAD, x.as(9, 0));
    }

    private static void dueAsk(VowRope x, int yarn, int what, int want, int... bodies) {
        due(want, x.ask(yarn, what));
        for (int i = 0; i < bodies.length; i++) {
            due(bodies[i], x.trace(i));
        }
        for (int i = bodies.length; i <= 17; i++) {
            due(NONE, x.trace(i));
        }
    }

    private static void asks() {
        says("of an ask the BODY told for the KIND begins, else that of the nearest KIND that it is, too");
        VowRope x = told(SORTS);
        dueAsk(x, 0, 0, 3 + 1, 11, 10, 21, 20);
        dueAsk(x, 0, 1, 1, 21, 20);
        dueAsk(x, 1, 0, 4 + 1 + 1 - 1000, 11, 10, 22, 21, 20);
        dueAsk(x, 1, 1, 1 + 1 - 1000, 22, 21, 20);
        dueAsk(x, 2, 0, -(5 + 2 * (2 + 1 - 1000)), 12, 11, 10, 24, 22, 21, 20);
        dueAsk(x, 2, 1, 2 * (2 + 1 - 1000), 24, 22, 21, 20);
        dueAsk(x, 3, 0, 6 - 100, 13, 10);
        dueAsk(x, 3, 1, 3 - (6 - 100), 23, 20, 13, 10);
        dueAsk(x, 4, 0, 2 * (7 - 100), 14, 13, 10);
        dueAsk(x, 4, 1, 4 - 2 * (7 - 100), 23, 20, 14, 13, 10);
    }

    private static void lastYarn() {
        says("ASKS of the last YARN of the last SPEAKER, and of the first");
        String five = "law 1 0;" + "speaker 0 0;".repeat(5) + "yarn debt 0 1;" + yarns(6, "vow 0 1");
        VowRope x = told(five + "yarn hope 4 9;yarn debt 4 9;");
        dueAsk(x, 8, 0, -(9 + 2 * (8 + 4 - 1000)), 12, 11, 10, 24, 22, 21, 20);
        dueAsk(x, 8, 1, 2 * (8 + 4 - 1000), 24, 22, 21, 20);
        dueAsk(x, 7, 1, 7 - 2 * (9 - 100), 23, 20, 14, 13, 10);
        dueAsk(x, 0, 0, -(1 - 2000), 12, 11, 10, 24, 22, 21, 20);
        dueAsk(x, 0, 1, -2000, 24, 22, 21, 20);
    }

    private static void askNumbers() {
        says("Promise 29: An ASK (0, 1) of a YARN. BAD");
        VowRope x = told(SORTS);
        for (int what : new int[] {-1, 2, MIN, MAX}) {
            due(BAD, x.ask(0, what));
            due(BAD, x.ask(4, what));
        }
        for (int y : new int[] {-1, 5, MIN, MAX}) {
            due(BAD, x.ask(y, 0));
            due(BAD, x.ask(y, 1));
        }
        due(NONE, x.trace(0));
        due(BAD, told("law 1 0;").ask(0, 0));
        due(BAD, new VowRope().ask(0, 1));
    }

    private static void trace() {
        says("Promise 30: Number i of THE TRACE; NONE");
        VowRope x = told(SORTS);
        for (int i : new int[] {-1, 0, 1, 15, 16, MIN, MAX}) {
            due(NONE, new VowRope().trace(i));
            due(NONE, x.trace(i));
        }
        x.ask(2, 0);
        due(12, x.trace(0));
        due(20, x.trace(6));
        for (int i : new int[] {-1, 7, 8, 15, 16, 17, MIN, MAX}) {
            due(NONE, x.trace(i));
        }
        says("THE TRACE is empty ahead of an ASK");
        x.ask(0, 1);
        due(21, x.trace(0));
        due(20, x.trace(1));
        for (int i = 2; i <= 16; i++) {
            due(NONE, x.trace(i));
        }
        for (int k = 0; k < 20; k++) {
            due(6 - 100, x.ask(3, 0));
        }
        due(13, x.trace(0));
        due(10, x.trace(1));
        due(NONE, x.trace(2));
        says("an ASK that is refused leaves THE TRACE as it was");
        x.ask(5, 0);
        x.ask(-1, 1);
        x.ask(0, 2);
        x.ask(0, -1);
        due(13, x.trace(0));
        due(10, x.trace(1));
        due(NONE, x.trace(2));
    }

    private static void traceStays() {
        says("THE TRACE is as the latest ASK left it, behind another WALK, too");
        VowRope x = told(SORTS);
        x.image(0);
        x.ask(3, 0);
        walkOf(x, "law 1 0;");
        due(13, x.trace(0));
        due(10, x.trace(1));
        x.restore(0);
        x.lay(0, 0);
        x.undo();
        due(13, x.trace(0));
        due(10, x.trace(1));
        due(NONE, x.trace(2));
    }

    private static void counts() {
        says("Promise 31: How many: 0 ROWS .. 6 bytes on the tape. BAD");
        VowRope x = told(SORTS);
        for (int what : new int[] {-1, 7, MIN, MAX}) {
            due(BAD, x.count(what));
            due(BAD, new VowRope().count(what));
        }
        x.row(2, 0, 0);
        due(1, x.count(0));
        due(2, x.count(1));
        due(5, x.count(2));
        x.lay(4, 2);
        x.lay(0, 0);
        x.lay(1, -1);
        due(2, x.count(3));
        due(3, x.count(4));
        x.vow(0, 2);
        x.vow(1, 2);
        x.vow(2, 2);
        x.vow(2, 1);
        due(2, x.count(5));
        x.feed(32, 3);
        due(3, x.count(6));
    }

    private static void mostCounts() {
        says("count at the most: 8 ROWS, 5 SPEAKERS, 9 YARNS, all LAID, 24 ACTS, all BROKEN, 400 bytes; and at none");
        VowRope x = told("law 1 0;" + "speaker 0 0;".repeat(5) + yarns(9, "vow 4 1"));
        for (int r = 0; r < 8; r++) {
            x.row(r, 0, 40);
        }
        layAll(x, "012012012");
        layAll(x, "012012012");
        for (int y = 0; y < 9; y++) {
            x.vow(y, 2);
        }
        feedText(x, " ".repeat(400));
        int[] most = {8, 5, 9, 9, 24, 9, 400};
        for (int what = 0; what <= 6; what++) {
            due(most[what], x.count(what));
        }
        x.walk();
        walkOf(x, "law 1 0;");
        for (int r = 0; r < 8; r++) {
            x.drop(r);
        }
        for (int what = 0; what <= 6; what++) {
            due(0, x.count(what));
        }
    }

    /** Leaves the FINDING 5, STORE: rows 0 and 1 are there, rows 2 to 7 are not. */
    private static VowRope found() {
        VowRope x = told(SORTS);
        x.row(0, 0, 2);
        x.row(1, 1, 2);
        x.copy(0, 0, 1, 0, 1);
        return x;
    }

    private static void status() {
        says("Promise 32: 0: it had none, or there was none");
        due(0, new VowRope().status());
        VowRope x = found();
        due(5, x.status());
        due(5, x.status());
        x.row(2, 0, 1);
        due(0, x.status());
        x = found();
        x.set(0, 0, 1);
        due(0, x.status());
        x = found();
        x.copy(0, 0, 0, 0, 0);
        due(0, x.status());
        x = found();
        x.drop(0);
        due(0, x.status());
        x = found();
        x.risk(0, 0, 1);
        due(0, x.status());
        x = found();
        x.as(0, 0);
        due(0, x.status());
        says("Promise 32: the number of its FINDING");
        x = found();
        x.row(0, 0, -1);
        due(4, x.status());
        x.set(2, 0, 0);
        due(1, x.status());
        x.set(0, 2, 0);
        due(2, x.status());
        x.as(0, 5);
        due(3, x.status());
        x.copy(0, 0, 2, 0, 0);
        due(1, x.status());
        x.copy(0, 0, 0, 0, 3);
        due(2, x.status());
        x.copy(1, 0, 0, 0, 3);
        due(5, x.status());
        x.drop(2);
        due(1, x.status());
        x.risk(0, 2, 1);
        due(2, x.status());
        x.risk(2, 0, 1);
        due(1, x.status());
        says("Promise 32: Of the latest call with a ROW, or as(): of no other");
        x = found();
        for (int y = -1; y < 2; y++) {
            x.lay(y, 0);
            x.pitch(y);
            x.vow(y, 1);
            x.splice(y);
            x.yarn(y, 2);
            x.best(y);
            x.kind(y);
            x.ask(y, 0);
            x.trace(y);
            x.count(y);
            x.bears(y);
            x.cheapest(y, 0);
            x.odds(y, 0);
            x.whose(y, 2);
            x.geese(y);
            x.fathoms(y);
            x.image(y);
            x.restore(y);
            x.pull(y, 1);
            x.year(y);
            x.undo();
            x.feed(32, y);
            x.walk();
            x.fault();
            due(5, x.status());
        }
        walkOf(x, SORTS);
        due(5, x.status());
    }

    private static void twoObjects() {
        says("Promise 1: what is done with one object is not done with another");
        VowRope x = told(SORTS);
        VowRope y = new VowRope();
        x.row(0, 0, 1);
        x.set(1, 0, 0);
        x.lay(0, 0);
        x.image(0);
        x.ask(0, 0);
        x.feed(32, 1);
        for (int what = 0; what <= 6; what++) {
            due(0, y.count(what));
        }
        due(0, y.status());
        due(0, y.fault());
        due(NONE, y.trace(0));
        due(STATE, y.restore(0));
        due(NULL, y.set(0, 0, 0));
        y.walk();
        due(0, x.fault());
        due(1, y.fault());
    }
}
