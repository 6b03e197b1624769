/** Edges of THE TAPE, TOKENS, NUMBERS and FAULTS: promises 6 to 8. */
public final class TextEdgeTest extends EdgeTest {
    private static final String LAW = "law 1 0;", ONE = LAW + "speaker 0 0;";

    public static void main(String[] args) {
        bytesOfOneCall();
        fullTape();
        readTape();
        names();
        letters();
        numbers();
        signs();
        blanks();
        law();
        speakers();
        yarnsTold();
        ends();
        firstToken();
        leastOfOneToken();
        latestFault();
        allStays();
        anew();
        end();
    }

    private static void dueFault(String text, int place, int number) {
        dueFaultOf(new VowRope(), text, place, number);
    }

    private static void dueFaultOf(VowRope x, String text, int place, int number) {
        due(-1000100 - place, walkOf(x, text));
        due(number, x.fault());
        due(0, x.count(6));
    }

    private static void dueWalk(String text, int yarns) {
        VowRope x = new VowRope();
        due(yarns, walkOf(x, text));
        due(0, x.fault());
        due(0, x.count(6));
    }

    private static void bytesOfOneCall() {
        says("Promise 6: The lowest n bytes of w (1 to 8), BAD: n");
        VowRope x = new VowRope();
        for (int n : new int[] {0, 9, -1, MIN, MAX}) {
            due(BAD, x.feed(0x2020202020202020L, n));
            due(0, x.count(6));
        }
        due(1, x.feed(32, 1));
        due(9, x.feed(0x2020202020202020L, 8));
        says("Promise 6: the highest of them first, come behind the tape");
        String text = LAW + "speaker 0 0;" + yarns(3, "vow 0 1");
        for (int n = 1; n <= 8; n++) {
            x = new VowRope();
            for (int at = 0; at < text.length(); at += n) {
                // what lies above the n bytes does not come
                long w = at % 2 == 0 ? -1 : 0x3B3B3B3B3B3B3B3BL;
                int bytes = Math.min(n, text.length() - at);
                for (int k = 0; k < bytes; k++) {
                    w = w << 8 | text.charAt(at + k);
                }
                due(at + bytes, x.feed(w, bytes));
            }
            due(3, x.walk());
        }
        says("Promise 6: all eight bytes of w, of either sign");
        x = new VowRope();
        due(8, x.feed(0xFF2020202020203BL, 8));
        due(-1000100, x.walk());
        x.feed(0x20202020202020FFL, 8);
        due(-1000107, x.walk());
        x.feed(0x203B202020202020L, 8);
        due(-1000101, x.walk());
    }

    private static VowRope filledTo(int length) {
        VowRope x = new VowRope();
        feedText(x, " ".repeat(length));
        return x;
    }

    private static void fullTape() {
        says("THE TAPE has at most 400 bytes; FULL: none comes");
        for (int n = 1; n <= 8; n++) {
            VowRope x = filledTo(400 - n);
            due(400, x.feed(0x2020202020202020L, n));
            due(400, x.count(6));
            due(FULL, x.feed(32, 1));
            due(400, x.count(6));
            x = filledTo(401 - n);
            due(FULL, x.feed(0x2020202020202020L, n));
            due(401 - n, x.count(6));
            if (n > 1) {
                due(400, x.feed(0x2020202020202020L, n - 1));
            }
            due(-1000500, x.walk());
            due(8, x.feed(0x2020202020202020L, 8));
        }
        says("FULL: none of its bytes comes, nor over those that are there");
        VowRope x = new VowRope();
        feedText(x, LAW + " ".repeat(390));
        due(FULL, x.feed(0x3B3B3BL, 3));
        due(400, x.feed(0x2020L, 2));
        due(FULL, x.feed(0x3BL, 1));
        due(0, x.walk());
        due(0, x.count(6));
    }

    private static void readTape() {
        says("Promise 7: The tape, empty then, is read");
        dueWalk(" ".repeat(392) + LAW, 0);
        dueWalk(LAW + "\n".repeat(392), 0);
        dueFault(LAW + " ".repeat(391) + ";", 399, 1);
        dueFault(" ".repeat(400), 400, 1);
        dueFault("", 0, 1);
        VowRope x = new VowRope();
        due(0, walkOf(x, LAW));
        due(0, x.count(6));
        due(-1000100, x.walk());
        due(1, x.feed('l', 1));
        due(2, x.feed('a', 1));
        due(-1000100, x.walk());
        due(1, x.feed('w', 1));
        due(-1000100, x.walk());
        // what lies behind the end of a shorter text is not read
        due(-1000120, walkOf(x, "law                 0 0;"));
        due(-1000103, walkOf(x, "law"));
        says("Promise 7: how many YARNS there are (9 at most)");
        for (int n = 0; n <= 9; n++) {
            dueWalk(ONE + yarns(n, "vow 0 1"), n);
        }
    }

    private static void names() {
        says("NAMES (letters a to z)");
        dueFault("lawa 1 0;", 0, 1);
        dueFault("lawz 1 0;", 0, 1);
        dueFault("zlaw 1 0;", 0, 1);
        for (char c : new char[] {96, 123, 'A', 'Z', '_', 225, 250}) {
            dueFault("law" + c + "1 0;", 3, 1);
            dueFault(c + "law 1 0;", 0, 1);
        }
        dueFault("Law 1 0;", 0, 1);
        dueFault("lAw 1 0;", 0, 1);
        dueFault("law 1 0;" + "a".repeat(392), 8, 1);
        dueFault("la", 0, 1);
        dueFault("laws", 0, 1);
        dueFault(LAW + "speake 0 0;", 8, 1);
        dueFault(LAW + "speakers 0 0;", 8, 1);
        dueFault(ONE + "yar vow 0 1;", 20, 1);
        dueFault(ONE + "yarns vow 0 1;", 20, 1);
        says("SORT: 'vow' | 'oath' | 'lie' | 'hope' | 'debt'");
        String[] sorts = {"vow", "oath", "debt", "lie", "hope"};
        for (int k = 0; k < 5; k++) {
            VowRope x = new VowRope();
            due(1, walkOf(x, ONE + "yarn " + sorts[k] + " 0 1;"));
            due(k + 1, x.kind(0));
            dueFault(ONE + "yarn " + sorts[k] + "s 0 1;", 25, 1);
            dueFault(ONE + "yarn " + sorts[k].substring(1) + " 0 1;", 25, 1);
            dueFault(ONE + "yarn " + sorts[k].substring(0, 2) + " 0 1;", 25, 1);
        }
        for (String none : new String[] {"yarn", "law", "speaker", "0", ";", ""}) {
            dueFault(ONE + "yarn " + none + " 0 1;", none.isEmpty() ? 26 : 25, 1);
        }
    }

    /** Each word of a text with one letter that is another one, or that is told twice, or that is left out. */
    private static void letters() {
        says("1 it cannot stand there: a word that is not the word, by one letter");
        for (String sort : new String[] {"vow", "oath", "lie", "hope", "debt"}) {
            String text = ONE + "yarn " + sort + " 0 1;";
            dueWalk(text, 1);
            int[][] words = {{0, 3}, {8, 15}, {20, 24}, {25, 25 + sort.length()}};
            for (int[] word : words) {
                for (int at = word[0]; at < word[1]; at++) {
                    char other = text.charAt(at) == 'q' ? 'x' : 'q';
                    dueFault(text.substring(0, at) + other + text.substring(at + 1), word[0], 1);
                    dueFault(text.substring(0, at) + text.substring(at + 1), word[0], 1);
                    dueFault(text.substring(0, at + 1) + text.substring(at), word[0], 1);
                }
            }
        }
    }

    private static void numbers() {
        says("NUMBERS (figures, 3 at most)");
        dueWalk("law 001 000;", 0);
        dueWalk("law 050 020;", 0);
        dueWalk("law 01 00;speaker 010 099;yarn vow 000 009;", 1);
        dueFault("law 0001 0;", 4, 1);
        dueFault("law 1 0000;", 6, 1);
        dueFault("law 999 0;", 4, 2);
        dueFault("law 1000 0;", 4, 1);
        dueFault(LAW + "speaker 0000 0;", 16, 1);
        dueFault(LAW + "speaker 0 0000;", 18, 1);
        dueFault(ONE + "yarn vow 0000 1;", 29, 1);
        dueFault(ONE + "yarn vow 0 0001;", 31, 1);
        says("NUMBERS that would wrap around");
        dueFault("law 4294967297 0;", 4, 1);
        dueFault("law 18446744073709551617 0;", 4, 1);
        dueFault("law 257 0;", 4, 2);
        dueFault("law 1 256;", 6, 2);
        dueFault("law " + "1".repeat(396), 4, 1);
        says("figures are 0 to 9");
        dueWalk("law 9 9;", 0);
        dueWalk("law 10 10;", 0);
        for (char c : new char[] {47, 58, '+', '-', '.', 176, 185}) {
            dueFault("law 1" + c + " 0;", 5, 1);
            dueFault("law " + c + "1 0;", 4, 1);
        }
    }

    private static void signs() {
        says("SIGNS ;");
        for (char c : new char[] {58, 60, ',', '.', 187}) {
            dueFault("law 1 0" + c, 7, 1);
        }
        dueFault("law 1 0;;", 8, 1);
        dueFault(";law 1 0;", 0, 1);
        dueFault("law;1 0;", 3, 1);
        dueFault("law 1;0;", 5, 1);
        dueFault("law 1 0 speaker 0 0;", 8, 1);
        dueFault("law 1 0 0;", 8, 1);
        dueFault(LAW + "speaker 0 0 yarn vow 0 1;", 20, 1);
        dueFault(ONE + "yarn vow 0 1 yarn vow 0 1;", 33, 1);
    }

    private static void blanks() {
        says("bytes 32 and 10 between");
        dueWalk(" \n law \n 1\n\n0 ; \n", 0);
        dueWalk("law1 0;speaker0 0;yarn\nvow0 1;", 1);
        dueWalk("law 1\n0;\nspeaker\n0\n0\n;yarn vow 0\n1\n;", 1);
        for (char c : new char[] {0, 9, 11, 12, 13, 31, 33, 138, 160, 255}) {
            dueFault("law" + c + "1 0;", 3, 1);
            dueFault(c + LAW, 0, 1);
            dueFault(LAW + c, 8, 1);
        }
        dueFault("la w 1 0;", 0, 1);
        dueFault("law 1 0;speaker 1 0 0;", 20, 1);
    }

    private static void law() {
        says("law: 'law' HEMP PITCH ';' (1 to 50; 0 to 20)");
        dueFault("law 0 0;", 4, 2);
        dueFault("law 51 0;", 4, 2);
        dueFault("law 1 21;", 6, 2);
        dueFault("law 50 21;", 7, 2);
        dueFault("law 100 0;", 4, 2);
        VowRope x = told("law 1 0;speaker 0 0;yarn vow 0 9;");
        due(9, x.yarn(0, 2));
        due(9, x.pitch(0));
        x = told("law 50 20;speaker 0 0;yarn vow 0 9;");
        due(450, x.yarn(0, 2));
        due(470, x.pitch(0));
        says("walk: law { speaker } { yarn }");
        dueWalk(LAW, 0);
        dueWalk(ONE, 0);
        dueFault(LAW + LAW, 8, 1);
        dueFault(ONE + LAW, 20, 1);
        dueFault(ONE + "yarn vow 0 1;" + LAW, 33, 1);
        dueFault("speaker 0 0;" + LAW, 0, 1);
        dueFault("yarn vow 0 1;" + LAW, 0, 1);
        dueFault(ONE + "yarn vow 0 1;speaker 0 0;", 33, 1);
        dueFault(LAW + "1 0;", 8, 1);
        dueFault(LAW + "vow 0 1;", 8, 1);
    }

    private static void speakers() {
        says("speaker: 'speaker' TRUTH PRICE ';' (0 to 10; 0 to 99)");
        dueFault(LAW + "speaker 11 0;", 16, 2);
        dueFault(LAW + "speaker 100 0;", 16, 2);
        dueFault(LAW + "speaker 0 100;", 18, 2);
        dueFault(LAW + "speaker 10 100;", 19, 2);
        VowRope x = told(LAW + "speaker 0 0;speaker 10 99;yarn vow 0 1;yarn vow 1 1;yarn debt 0 1;yarn debt 1 1;");
        due(1, x.yarn(2, 2));
        due(100, x.yarn(3, 2));
        due(5, x.year(7));
        says("SPEAKERS 0 .. 4, 5 at most; 3 a speaker more than there is room for (its word)");
        String five = LAW + "speaker 0 0;".repeat(5);
        dueWalk(five, 0);
        due(5, told(five).count(1));
        dueFault(five + "speaker 0 0;", 68, 3);
        dueFault(five + "\n speaker", 70, 3);
        dueFault(five + "speaker 11 100 x", 68, 3);
        dueFault(five + "speakers", 68, 1);
        dueFault(LAW + "speaker 0 0;".repeat(4) + "speaker 11 0;speaker 0 0;", 64, 2);
        dueWalk(five + "yarn vow 4 1;", 1);
        says("a SPEAKER told");
        dueFault(LAW + "yarn vow 0 1;", 17, 2);
        for (int n = 1; n <= 5; n++) {
            String some = LAW + "speaker 0 0;".repeat(n);
            dueWalk(some + "yarn vow " + (n - 1) + " 1;", 1);
            dueFault(some + "yarn vow " + n + " 1;", some.length() + 9, 2);
            dueFault(some + "yarn vow 999 1;", some.length() + 9, 2);
        }
    }

    private static void yarnsTold() {
        says("yarn: 'yarn' SORT SPEAKER LENGTH ';' (1 to 9)");
        dueFault(ONE + "yarn vow 0 0;", 31, 2);
        dueFault(ONE + "yarn vow 0 10;", 31, 2);
        dueFault(ONE + "yarn vow 1 0;", 29, 2);
        VowRope x = told(ONE + "yarn vow 0 1;yarn vow 0 9;");
        due(1, x.yarn(0, 1));
        due(9, x.yarn(1, 1));
        says("YARNS 0 .. 8, 9 at most; 3 a yarn more than there is room for (its word)");
        String nine = ONE + yarns(9, "vow 0 1");
        dueWalk(nine, 9);
        due(1, told(nine).yarn(8, 1));
        dueFault(nine + "yarn vow 0 1;", 137, 3);
        dueFault(nine + " yarn", 138, 3);
        dueFault(nine + "yarn 0 0 0", 137, 3);
        dueFault(nine + "yarns", 137, 1);
        dueFault(nine + ";", 137, 1);
        dueFault(ONE + yarns(8, "vow 0 1") + "yarn vow 0 0;yarn vow 0 1;", 135, 2);
    }

    /** Each beginning of a text: a word that is cut is another word; behind all others the end cannot stand. */
    private static void ends() {
        says("1 it cannot stand there, or is none (the end: how many bytes there are)");
        String text = ONE + "yarn vow 0 1;";
        int[][] words = {{0, 3}, {8, 15}, {20, 24}, {25, 28}};
        for (int length = 0; length <= text.length(); length++) {
            int place = length;
            for (int[] word : words) {
                place = word[0] < length && length < word[1] ? word[0] : place;
            }
            String cut = text.substring(0, length);
            if (length == 8 || length == 20 || length == 33) {
                dueWalk(cut, length == 33 ? 1 : 0);
            } else {
                dueFault(cut, place, 1);
            }
        }
        dueFault("law 1 0 \n ", 10, 1);
        dueFault(ONE + "yarn  ", 26, 1);
        dueFault("   ", 3, 1);
    }

    private static void firstToken() {
        says("FAULTS, the first TOKEN that has one (its first byte)");
        dueFault("law 0 21;", 4, 2);
        dueFault("law 0 ;;", 4, 2);
        dueFault("law ; 0", 4, 1);
        dueFault("law 1 21 ?", 6, 2);
        dueFault("law 1 ? 21", 6, 1);
        dueFault("?law 0 0;", 0, 1);
        dueFault("law  051 ;", 5, 2);
        dueFault(LAW + "speaker 11 100;", 16, 2);
        dueFault(LAW + "speaker 10 100;yarn", 19, 2);
        dueFault(ONE + "yarn song 9 0;", 25, 1);
        dueFault(ONE + "yarn vow 9 0;", 29, 2);
        dueFault("law 1 0;speaker 0 0", 19, 1);
    }

    private static void leastOfOneToken() {
        says("of one TOKEN the least");
        dueFault("law 1 0 51;", 8, 1);
        dueFault("law 9999 0;", 4, 1);
        dueFault(LAW + "999", 8, 1);
        dueFault(ONE + "yarn 999 0 1;", 25, 1);
        // a sixth speaker behind a yarn cannot stand there
        dueFault(LAW + "speaker 0 0;".repeat(5) + "yarn vow 0 1;speaker 0 0;", 81, 1);
        dueFault(LAW + "speaker 0 0;".repeat(5) + "speaker", 68, 3);
        dueFault(ONE + yarns(9, "vow 0 1") + "speaker", 137, 1);
    }

    private static void latestFault() {
        says("Promise 8: The number of the latest FAULT; 0 before one");
        VowRope x = new VowRope();
        due(0, x.fault());
        walkOf(x, LAW);
        due(0, x.fault());
        walkOf(x, "law 0 0;");
        due(2, x.fault());
        walkOf(x, LAW);
        due(2, x.fault());
        walkOf(x, LAW + "speaker 0 0;".repeat(6));
        due(3, x.fault());
        x.feed(0, 9);
        x.row(9, 9, 9);
        due(3, x.fault());
        x.walk();
        due(1, x.fault());
        x.image(0);
        walkOf(x, "law 0 0;");
        x.restore(0);
        due(2, x.fault());
        due(0, new VowRope().fault());
    }

    private static void allStays() {
        says("Promise 7: -1000100 less the place of a FAULT: all stays");
        String text = "law 4 3;speaker 7 5;speaker 10 11;yarn vow 0 3;yarn debt 1 5;";
        String[] wrong = {"", "law 9 9", "law 9 21;", "law 9 9;speaker 0 0;speaker 0 0;speaker 0 0;?",
            "law 9 9;speaker 0 0;yarn lie 0 9;yarn lie 0 9;yarn lie 0 9;;", LAW + "speaker 0 0;".repeat(6),
            ONE + yarns(10, "lie 0 9")};
        int[] numbers = {1, 1, 2, 1, 1, 3, 3};
        for (int k = 0; k < wrong.length; k++) {
            VowRope x = told(text);
            x.lay(0, 2);
            x.lay(1, 1);
            x.pull(0, 1);
            x.pitch(1);
            x.vow(1, 1);
            x.vow(0, 2);
            due(-1000100, walkOf(x, wrong[k]) < 0 ? -1000100 : 0);
            due(numbers[k], x.fault());
            due(2, x.count(1));
            due(2, x.count(2));
            due(6, x.count(4));
            due(2, x.yarn(0, 4));
            due(1, x.yarn(0, 0) + x.yarn(1, 0));
            due(3, x.yarn(0, 1));
            // 20 and 10 more, 11 more, 3 more: 44; 22 more; what it is worn (5: it was parted, or none)
            due(66 - x.yarn(1, 5), x.yarn(1, 2));
            due(3, x.kind(1));
            due(1, x.yarn(1, 6));
            due(5, x.undo());
            due(0, x.yarn(0, 4));
        }
        says("a FAULT where there is no WALK: there is none yet");
        VowRope x = new VowRope();
        walkOf(x, ONE + yarns(2, "vow 0 1") + "?");
        due(STATE, x.bears(0));
        due(STATE, x.image(0));
        due(BAD, x.kind(0));
        due(BAD, x.fathoms(0));
        due(0, x.count(1));
        due(0, x.count(2));
    }

    private static void anew() {
        says("A WALK that is read stands in place of the one before: all YARNS are LOOSE, DOUBTED, not PITCHED, "
            + "not WORN, no ACT can be undone");
        VowRope x = told("law 9 9;" + "speaker 5 5;".repeat(5) + yarns(9, "vow 4 9"));
        layAll(x, "012012012");
        x.pull(0, 1);
        for (int y = 0; y < 9; y++) {
            x.pitch(y);
            x.vow(y, 1 + y % 2);
        }
        due(24, x.count(4));
        due(9, walkOf(x, LAW + "speaker 0 0;" + yarns(9, "vow 0 2")));
        due(0, x.count(3));
        due(0, x.count(4));
        due(0, x.count(5));
        due(1, x.count(1));
        due(STATE, x.undo());
        due(BAD, x.fathoms(1));
        for (int y = 0; y < 9; y++) {
            int[] dues = {0, 2, 2, -1, 0, 0, 0};
            for (int what = 0; what < 7; what++) {
                due(dues[what], x.yarn(y, what));
            }
        }
        says("a WALK that is read leaves ROWS and IMAGES as they are");
        x.row(0, 2, 3);
        x.row(7, 2, 4);
        x.image(1);
        walkOf(x, LAW);
        due(2, x.count(0));
        due(4, x.drop(7));
        due(3, x.drop(0));
        due(1, x.restore(1));
        due(9, x.count(2));
        says("fewer YARNS than before, and none");
        due(1, walkOf(x, ONE + "yarn lie 0 1;"));
        due(BAD, x.yarn(1, 0));
        due(0, walkOf(x, LAW));
        due(0, x.count(1));
        due(0, x.count(2));
        due(BAD, x.yarn(0, 0));
        due(0, x.bears(3));
    }
}
