import java.util.ArrayList;
import java.util.List;
import java.util.function.ToIntFunction;

/** Terms: which refusal is answered where several fit, and that what is refused, or found, changes nothing. */
public final class RefusedEdgeTest extends EdgeTest {
    private static final int[] WRONG_ROWS = {-1, 8, MIN, MAX}, WRONG_YARNS = {-1, 4, 9, MIN, MAX};
    private static final int[] WRONG_LOADS = {-1, 10000, MIN, MAX}, WRONG_SEEDS = {0, -1, 1000000, MIN, MAX};

    public static void main(String[] args) {
        badAheadOfFindings();
        findingsInTime();
        badAheadOfState();
        stateAheadOfBad();
        badAheadOfFull();
        refusedWithWalk();
        refusedWithoutWalk();
        refusedFeeds();
        faultsChangeNoWalk();
        end();
    }

    /** A rope whose status() is 5. */
    private static VowRope foundStore() {
        VowRope x = rope();
        due(STORE, x.copy(0, 0, 1, 0, 1));
        return x;
    }

    private static void dueBad(int status, VowRope x, int answer) {
        due(BAD, answer);
        due(status, x.status());
    }

    private static void badAheadOfFindings() {
        says("Terms: the first of these that fits: BAD, ahead of FINDINGS");
        VowRope x = foundStore();
        // row: no such ROW, no such LANE, and fewer than none
        dueBad(5, x, x.row(8, 0, -1));
        dueBad(5, x, x.row(-1, 0, -1));
        dueBad(5, x, x.row(0, 3, -1));
        dueBad(5, x, x.row(0, -1, -1));
        // set: no such ROW, and no such place
        dueBad(5, x, x.set(8, -1, 0));
        dueBad(5, x, x.set(-1, 99, 0));
        // copy: one no such ROW, the other missing, of another LANE, of fewer places
        dueBad(5, x, x.copy(8, 0, 7, 0, 0));
        dueBad(5, x, x.copy(7, 0, 8, 0, 0));
        dueBad(5, x, x.copy(-1, -1, 1, -1, -1));
        dueBad(5, x, x.copy(0, -1, -1, -1, -1));
        // as: no such YARN, no such KIND
        dueBad(5, x, x.as(9, 5));
        dueBad(5, x, x.as(0, 6));
        // risk: no such ROW, no such n, where a ROW is missing, a place is none
        dueBad(5, x, x.risk(8, -1, 1));
        dueBad(5, x, x.risk(7, 0, 0));
        dueBad(5, x, x.risk(7, 0, 41));
        dueBad(5, x, x.risk(0, -1, 0));
        dueBad(5, x, x.risk(0, 0, 41));
    }

    private static void dueFound(int finding, VowRope x, int answer) {
        due(-1000010 - finding, answer);
        due(finding, x.status());
    }

    private static void findingsInTime() {
        says("Terms: FINDINGS, of several the first in time");
        VowRope x = foundStore();
        dueFound(1, x, x.set(7, -1, 0));
        dueFound(2, x, x.set(0, -1, 0));
        // copy: NULL; STORE; PLACE
        dueFound(1, x, x.copy(7, -1, 0, 0, 1));
        dueFound(1, x, x.copy(0, -1, 7, 0, 1));
        dueFound(1, x, x.copy(0, 0, 7, 0, 99));
        dueFound(5, x, x.copy(0, -1, 1, 0, 1));
        dueFound(5, x, x.copy(0, 0, 1, -1, 1));
        dueFound(5, x, x.copy(0, 0, 1, 0, -1));
        dueFound(5, x, x.copy(0, 0, 1, 0, 99));
        dueFound(2, x, x.copy(0, -1, 0, 0, 1));
        // risk: NULL; PLACE; then BAD: an ITEM below 0
        dueFound(1, x, x.risk(7, -1, 1));
        dueFound(1, x, x.risk(7, 0, 40));
        x.set(0, 0, -1);
        x.set(0, 2, -1);
        dueFound(2, x, x.risk(0, 0, 4));
        dueFound(2, x, x.risk(0, 2, 2));
        dueFound(2, x, x.risk(0, -1, 2));
        dueBad(2, x, x.risk(0, 0, 3));
        dueBad(2, x, x.risk(0, 2, 1));
        due(1, x.risk(0, 1, 1));
        due(0, x.status());
        dueBad(0, x, x.risk(0, 0, 1));
    }

    private static void badAheadOfState() {
        says("Terms: BAD, ahead of STATE");
        VowRope x = new VowRope();
        for (int k : new int[] {-1, 2, MIN, MAX}) {
            due(BAD, x.image(k));
            due(BAD, x.restore(k));
        }
        due(STATE, x.image(1));
        due(STATE, x.restore(1));
        x = rope();
        due(STATE, x.pitch(3));
        due(BAD, x.pitch(4));
        due(BAD, x.pitch(-1));
    }

    private static void stateAheadOfBad() {
        says("STATE: no WALK (ahead of BAD)");
        for (int w : new int[] {-1, 10000, 1000000, MIN, MAX}) {
            VowRope x = new VowRope();
            due(STATE, x.pull(w, 1));
            due(STATE, x.pull(0, w));
            due(STATE, x.pull(w, w));
            due(STATE, x.year(w));
            due(STATE, x.bears(w));
            due(STATE, x.best(w));
            due(STATE, x.cheapest(w, 0));
            due(STATE, x.cheapest(0, w));
            due(STATE, x.odds(w, 0));
            due(STATE, x.odds(0, w));
            due(STATE, x.risk(w, 0, 1));
            due(STATE, x.risk(0, 0, w));
            due(STATE, x.whose(w, 1));
            due(STATE, x.whose(0, w));
            due(STATE, x.whose(1, 1));
            due(STATE, x.geese(w));
            due(STATE, x.geese(0));
        }
        says("risk, STATE ahead of NULL, PLACE and an ITEM below 0");
        VowRope x = new VowRope();
        due(STATE, x.risk(0, 0, 1));
        x.row(0, 2, 1);
        due(STATE, x.risk(0, 0, 1));
        due(STATE, x.risk(0, 1, 1));
        x.set(0, 0, -1);
        due(STATE, x.risk(0, 0, 1));
        x.set(0, 9, 0);
        due(STATE, x.risk(0, 0, 1));
        due(2, x.status());
    }

    private static void badAheadOfFull() {
        says("Terms: BAD, ahead of FULL");
        VowRope x = new VowRope();
        feedText(x, " ".repeat(400));
        for (int n : new int[] {0, 9, -1, MIN, MAX}) {
            due(BAD, x.feed(0, n));
        }
        due(FULL, x.feed(0, 1));
        due(FULL, x.feed(0, 8));
        due(400, x.count(6));
    }

    /** A rope with all that a call could change; rows 0 to 3 are there, yarn 3 is PITCHED and WORN. */
    private static VowRope rope() {
        VowRope x = ropeWithoutTape();
        feedText(x, "law 2 1;speaker 1 1;");
        return x;
    }

    private static VowRope ropeWithoutTape() {
        VowRope x = told("law 6 3;speaker 5 9;speaker 2 4;yarn vow 0 3;yarn oath 1 3;yarn hope 0 9;yarn debt 1 2;");
        due(-1000100, x.walk());
        layAll(x, "012");
        x.image(1);
        x.vow(0, 1);
        x.pull(0, 10);
        x.image(0);
        x.pitch(3);
        x.lay(3, 1);
        x.pull(0, 10);
        x.vow(2, 2);
        for (int r = 0; r < 4; r++) {
            x.row(r, r % 3, 3);
            x.set(r, r % 3, r - 1);
        }
        x.ask(3, 0);
        return x;
    }

    /** All that calls tell of an object; what takes it apart comes last. */
    private static List<Integer> seenOf(VowRope x) {
        List<Integer> seen = new ArrayList<>();
        for (int what = 0; what <= 6; what++) {
            seen.add(x.count(what));
        }
        seen.add(x.fault());
        for (int i = 0; i < 9; i++) {
            seen.add(x.trace(i));
        }
        seeWalk(x, seen);
        for (int r = 0; r < 8; r++) {
            for (int i = 0; i < 4; i++) {
                seen.add(x.risk(r, i, 1));
            }
            seen.add(x.copy(r, 0, 2, 0, 0));
            seen.add(x.copy(r, 0, 3, 0, 0));
        }
        for (int k = 0; k < 12; k++) {
            seen.add(x.undo());
            seeState(x, seen);
        }
        for (int k = 0; k < 2; k++) {
            seen.add(x.restore(k));
            seeWalk(x, seen);
        }
        seen.add(x.walk());
        seen.add(x.fault());
        seen.add(x.count(1));
        for (int r = 0; r < 8; r++) {
            seen.add(x.drop(r));
        }
        return seen;
    }

    private static void seeWalk(VowRope x, List<Integer> seen) {
        for (int y = 0; y < 4; y++) {
            for (int what = 0; what <= 2; what++) {
                seen.add(x.yarn(y, what));
            }
            seen.add(x.kind(y));
        }
        seen.add(x.bears(3));
        seeState(x, seen);
    }

    private static void seeState(VowRope x, List<Integer> seen) {
        for (int y = 0; y < 4; y++) {
            for (int what = 3; what <= 6; what++) {
                seen.add(x.yarn(y, what));
            }
        }
    }

    private static List<Integer> untouched = List.of();

    /** Made on a new rope whose status() is told, the call is refused: only a FINDING changes status(). */
    private static void dueRefused(int want, ToIntFunction<VowRope> call) {
        VowRope x = foundStore();
        due(want, call.applyAsInt(x));
        due(want < -1000010 ? -1000010 - want : 5, x.status());
        due(1, seenOf(x).equals(untouched) ? 1 : 0);
        x = rope();
        due(1, x.set(0, 1, 1));
        due(want, call.applyAsInt(x));
        due(want < -1000010 ? -1000010 - want : 0, x.status());
    }

    private static void refusedWithWalk() {
        says("What is refused, or found, changes nothing but status()");
        untouched = seenOf(rope());
        refusedRows();
        refusedActs();
        refusedForetold();
        dueRefused(STATE, x -> x.pitch(3));
        dueRefused(BAD, x -> x.count(7));
        dueRefused(BAD, x -> x.count(-1));
        dueRefused(BAD, x -> x.feed(-1, 0));
        dueRefused(BAD, x -> x.feed(-1, 9));
        dueRefused(KIND, x -> x.as(0, 2));
        dueRefused(KIND, x -> x.as(2, 1));
        dueRefused(BAD, x -> x.as(0, 6));
        dueRefused(BAD, x -> x.as(0, -1));
    }

    private static void refusedRows() {
        for (int r : WRONG_ROWS) {
            dueRefused(BAD, x -> x.row(r, 0, 1));
            dueRefused(BAD, x -> x.set(r, 0, 9));
            dueRefused(BAD, x -> x.copy(r, 0, 0, 0, 1));
            dueRefused(BAD, x -> x.copy(0, 0, r, 0, 1));
            dueRefused(BAD, x -> x.drop(r));
            dueRefused(BAD, x -> x.risk(r, 0, 1));
        }
        dueRefused(BAD, x -> x.row(0, 3, 2));
        dueRefused(BAD, x -> x.row(0, -1, 2));
        dueRefused(BAD, x -> x.row(0, 2, 41));
        dueRefused(SIZE, x -> x.row(0, 2, -1));
        dueRefused(SIZE, x -> x.row(7, 2, -1));
        dueRefused(NULL, x -> x.set(4, 0, 1));
        dueRefused(PLACE, x -> x.set(0, 3, 1));
        dueRefused(PLACE, x -> x.set(0, -1, 1));
        dueRefused(NULL, x -> x.copy(0, 0, 4, 0, 3));
        dueRefused(NULL, x -> x.copy(4, 0, 0, 0, 3));
        dueRefused(STORE, x -> x.copy(0, 0, 1, 0, 3));
        dueRefused(STORE, x -> x.copy(2, 0, 0, 0, 3));
        dueRefused(PLACE, x -> x.copy(0, 0, 3, 1, 3));
        dueRefused(PLACE, x -> x.copy(3, 1, 0, 0, 3));
        dueRefused(PLACE, x -> x.copy(3, 0, 0, 0, 4));
        dueRefused(PLACE, x -> x.copy(3, 0, 0, 0, -1));
        dueRefused(NULL, x -> x.drop(4));
        dueRefused(NULL, x -> x.risk(4, 0, 1));
        dueRefused(PLACE, x -> x.risk(0, 1, 3));
        dueRefused(BAD, x -> x.risk(0, 0, 0));
        dueRefused(BAD, x -> x.risk(0, 0, 41));
        dueRefused(BAD, x -> x.risk(0, 0, 3));
    }

    private static void refusedActs() {
        for (int y : WRONG_YARNS) {
            dueRefused(BAD, x -> x.lay(y, 2));
            dueRefused(BAD, x -> x.pitch(y));
            dueRefused(BAD, x -> x.vow(y, 2));
            dueRefused(BAD, x -> x.splice(y));
            dueRefused(BAD, x -> x.yarn(y, 2));
            dueRefused(BAD, x -> x.kind(y));
            dueRefused(BAD, x -> x.as(y, 0));
            dueRefused(BAD, x -> x.ask(y, 0));
        }
        for (int s : new int[] {-2, 3, MIN, MAX}) {
            dueRefused(BAD, x -> x.lay(0, s));
            dueRefused(BAD, x -> x.vow(0, s));
            dueRefused(BAD, x -> x.image(s));
            dueRefused(BAD, x -> x.restore(s));
            dueRefused(BAD, x -> x.ask(0, s));
        }
        for (int load : WRONG_LOADS) {
            dueRefused(BAD, x -> x.pull(load, 1));
            dueRefused(BAD, x -> x.cheapest(load, 0));
            dueRefused(BAD, x -> x.odds(load, 0));
            dueRefused(BAD, x -> x.whose(load, 9999));
            dueRefused(BAD, x -> x.whose(0, load));
        }
        for (int seed : WRONG_SEEDS) {
            dueRefused(BAD, x -> x.pull(0, seed));
            dueRefused(BAD, x -> x.pull(9999, seed));
            dueRefused(BAD, x -> x.year(seed));
        }
    }

    private static void refusedForetold() {
        for (int what : new int[] {-1, 2}) {
            dueRefused(BAD, x -> x.cheapest(0, what));
            dueRefused(BAD, x -> x.odds(0, what));
            dueRefused(BAD, x -> x.image(what));
            dueRefused(BAD, x -> x.restore(what));
            dueRefused(BAD, x -> x.ask(0, what));
        }
        dueRefused(BAD, x -> x.yarn(0, 7));
        dueRefused(BAD, x -> x.yarn(0, -1));
        dueRefused(BAD, x -> x.bears(4));
        dueRefused(BAD, x -> x.bears(-1));
        dueRefused(BAD, x -> x.best(-2));
        dueRefused(BAD, x -> x.best(4));
        dueRefused(BAD, x -> x.whose(3, 3));
        dueRefused(BAD, x -> x.whose(3, 2));
        dueRefused(BAD, x -> x.geese(0));
        dueRefused(BAD, x -> x.geese(16));
        dueRefused(BAD, x -> x.geese(-1));
        dueRefused(BAD, x -> x.fathoms(2));
        dueRefused(BAD, x -> x.fathoms(-1));
    }

    private static void refusedWithoutWalk() {
        says("STATE: no WALK; nothing changes");
        VowRope x = new VowRope();
        x.row(0, 0, 1);
        due(PLACE, x.set(0, 1, 0));
        due(STATE, x.pull(9999, 1));
        due(STATE, x.year(1));
        due(STATE, x.undo());
        due(STATE, x.bears(0));
        due(STATE, x.best(-1));
        due(STATE, x.cheapest(0, 0));
        due(STATE, x.odds(0, 0));
        due(STATE, x.risk(0, 0, 1));
        due(STATE, x.whose(0, 1));
        due(STATE, x.geese(1));
        due(STATE, x.image(0));
        due(STATE, x.restore(0));
        due(2, x.status());
        int[] counts = {1, 0, 0, 0, 0, 0, 0};
        for (int what = 0; what <= 6; what++) {
            due(counts[what], x.count(what));
        }
        due(0, x.fault());
        says("a refused restore, undo: the WALK and its ACTS are as they were");
        x = told("law 1 0;speaker 0 0;yarn vow 0 1;");
        due(STATE, x.undo());
        x.lay(0, 1);
        x.image(0);
        due(STATE, x.restore(1));
        due(1, x.count(4));
        due(1, x.yarn(0, 3));
        due(0, x.undo());
        due(STATE, x.undo());
        due(-1, x.yarn(0, 3));
    }

    private static void refusedFeeds() {
        says("Promise 6, FULL: none comes, and nothing changes");
        VowRope x = foundStore();
        feedText(x, " ".repeat(380));
        due(400, x.count(6));
        VowRope twin = rope();
        feedText(twin, " ".repeat(380));
        for (int n = 1; n <= 8; n++) {
            due(FULL, x.feed(-1, n));
        }
        due(5, x.status());
        due(1, seenOf(x).equals(seenOf(twin)) ? 1 : 0);
    }

    private static void faultsChangeNoWalk() {
        says("Promise 7: all stays, behind each FAULT");
        String[] wrong = {"", "law 9 9", "law 51 9;", "law 9 9;speaker 0 0;speaker 1 1;speaker 2 2;?",
            "law 9 9;speaker 0 0;" + yarns(5, "lie 0 9") + ";", "law 9 9;" + "speaker 0 0;".repeat(6),
            "law 9 9;speaker 0 0;" + yarns(10, "lie 0 9")};
        int[] numbers = {1, 1, 2, 1, 1, 3, 3};
        for (int k = 0; k < wrong.length; k++) {
            VowRope x = ropeWithoutTape();
            due(1, walkOf(x, wrong[k]) <= -1000100 ? 1 : 0);
            due(numbers[k], x.fault());
            due(0, x.count(6));
            // the latest FAULT is 1 again, as the other rope's is
            due(-1000100, walkOf(x, "?"));
            due(1, seenOf(x).equals(seenOf(ropeWithoutTape())) ? 1 : 0);
        }
    }
}
