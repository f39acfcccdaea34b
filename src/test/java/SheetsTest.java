/** Promises 21 and 29 to 37: sheets, slots, miles. */
public final class SheetsTest {
    private static final int BAD = RoadSorted.BAD, NO = RoadSorted.NO, NONE = RoadSorted.NONE, NOTHING = RoadSorted.NOTHING;
    private static final int KIND = RoadSorted.KIND, INDEX = RoadSorted.INDEX, SIZE = RoadSorted.SIZE;
    private static final int MIN = Integer.MIN_VALUE, MAX = Integer.MAX_VALUE;

    public static void main(String[] args) {
        sheet();
        markShorts();
        markFloats();
        pour();
        reads();
        copy();
        copyFindings();
        miles();
        milesFindings();
        lay();
        slotsAreTheirOwn();
        ask();
        item();
        rest();
        Due.end();
    }

    /** A place of a sheet, by way of slot 4. */
    private static int place(RoadSorted x, int sheet, int place) {
        x.lay(4, 2, sheet);
        return x.item(4, place);
    }

    private static void row(String call, RoadSorted x, int sheet, int... want) {
        for (int p = 0; p < want.length; p++) {
            Due.due(call + ": place " + p, place(x, sheet, p), want[p]);
        }
        Due.due(call + ": place " + want.length, place(x, sheet, want.length), INDEX);
    }

    private static RoadSorted sheetOf(int sort, int... values) {
        RoadSorted x = new RoadSorted();
        fill(x, 0, sort, values);
        return x;
    }

    private static void fill(RoadSorted x, int sheet, int sort, int... values) {
        x.sheet(sheet, sort, values.length);
        for (int p = 0; p < values.length; p++) {
            x.mark(sheet, p, values[p]);
        }
    }

    private static void sheet() {
        RoadSorted x = new RoadSorted();
        Due.due("sheet(0, 0, 0)", x.sheet(0, 0, 0), 0);
        row("sheet(0, 0, 0)", x, 0);
        Due.due("sheet(3, 1, 24)", x.sheet(3, 1, 24), 24);
        row("sheet(3, 1, 24)", x, 3, new int[24]);
        Due.due("sheet(3, 0, 25)", x.sheet(3, 0, 25), BAD);
        Due.due("sheet(3, 0, -1)", x.sheet(3, 0, -1), SIZE);
        Due.due("sheet(3, 1, MIN)", x.sheet(3, 1, MIN), SIZE);
        Due.due("sheet(3, 2, 1)", x.sheet(3, 2, 1), BAD);
        Due.due("sheet(3, -2, 1)", x.sheet(3, -2, 1), BAD);
        Due.due("sheet(4, 0, 1)", x.sheet(4, 0, 1), BAD);
        Due.due("sheet(-1, 0, 1)", x.sheet(-1, 0, 1), BAD);
        Due.due("sheet(4, 0, -1): BAD stands first", x.sheet(4, 0, -1), BAD);
        Due.due("sheet(3, 2, -1): BAD stands first", x.sheet(3, 2, -1), BAD);
        Due.due("sheet(4, -1, 0)", x.sheet(4, -1, 0), BAD);
        row("refused ones change nothing", x, 3, new int[24]);
        x.mark(3, 0, 9);
        x.mark(3, 1, NONE);
        Due.due("sheet(3, 1, 2)", x.sheet(3, 1, 2), 2);
        row("all are 0", x, 3, 0, 0);
        Due.due("sheet(3, -1, -5)", x.sheet(3, -1, -5), 0);
        Due.due("MISSING", x.reads(3), NOTHING);
        Due.due("sheet(3, -1, 99)", x.sheet(3, -1, 99), 0);
        Due.due("MISSING already", x.reads(3), NOTHING);
        Due.due("others are not", x.reads(0), NONE);
    }

    private static void markShorts() {
        RoadSorted x = sheetOf(0, 5, 6, 7);
        int[] v = {32767, 32768, 65535, 65536, -32768, -32769, MAX, MIN, 70000, RoadSorted.BAD};
        int[] want = {32767, -32768, -1, 0, -32768, 32767, -1, 0, 4464, 13823};
        for (int i = 0; i < v.length; i++) {
            Due.due("mark(0, 1, " + v[i] + ")", x.mark(0, 1, v[i]), 1);
            row("mark of shorts", x, 0, 5, want[i], 7);
        }
        Due.due("mark(0, 0, NONE)", x.mark(0, 0, NONE), KIND);
        Due.due("mark(0, 3, NONE): INDEX stands first", x.mark(0, 3, NONE), INDEX);
        Due.due("mark(0, -1, 1)", x.mark(0, -1, 1), INDEX);
        Due.due("mark(0, MAX, 1)", x.mark(0, MAX, 1), INDEX);
        Due.due("mark(1, 0, 1)", x.mark(1, 0, 1), NOTHING);
        Due.due("mark(1, -1, NONE): NOTHING stands first", x.mark(1, -1, NONE), NOTHING);
        Due.due("mark(4, 0, 1)", x.mark(4, 0, 1), BAD);
        Due.due("mark(-1, 0, 1)", x.mark(-1, 0, 1), BAD);
    }

    private static void markFloats() {
        RoadSorted x = sheetOf(1, 5, 6, 7);
        Due.due("mark(0, 0, 99999)", x.mark(0, 0, 99999), 1);
        Due.due("mark(0, 1, -99999)", x.mark(0, 1, -99999), 1);
        Due.due("mark(0, 2, NONE)", x.mark(0, 2, NONE), 1);
        row("mark of floats", x, 0, 99999, -99999, KIND);
        Due.due("mark(0, 0, 100000)", x.mark(0, 0, 100000), BAD);
        Due.due("mark(0, 0, -100000)", x.mark(0, 0, -100000), BAD);
        Due.due("mark(0, 0, MIN)", x.mark(0, 0, MIN), BAD);
        Due.due("mark(0, 3, 100000): INDEX stands first", x.mark(0, 3, 100000), INDEX);
        Due.due("mark(0, 2, 0)", x.mark(0, 2, 0), 1);
        row("refused ones change nothing", x, 0, 99999, -99999, 0);
        x.sheet(0, 1, 0);
        Due.due("mark of a row without places", x.mark(0, 0, 0), INDEX);
    }

    private static void pour() {
        RoadSorted x = sheetOf(1, 4, -3, NONE, 99999, 9, 0);
        for (int i = 0; i < 7; i++) {
            x.letter(0, 10, 4);
        }
        x.halt();
        Due.due("pour(0)", x.pour(0), 4);
        int[] towns = {4, 0, 4, 9, 9, 0, 4};
        for (int i = 0; i < 7; i++) {
            Due.due("TOWN of " + i, x.told(i, 2), towns[i]);
        }
        Due.due("pour(0) again", x.pour(0), 0);
        Due.due("the sheet is as it was", place(x, 0, 3), 99999);
        fill(x, 1, 0, 1, 2, 3, 4, 5, 6, 7, 8, 9, 1, 2, 3);
        Due.due("pour(1): of a longer row", x.pour(1), 7);
        Due.due("TOWN of 6", x.told(6, 2), 7);
        Due.due("pour(2)", x.pour(2), NOTHING);
        Due.due("pour(4)", x.pour(4), BAD);
        Due.due("pour(-1)", x.pour(-1), BAD);
        Due.due("pour(0) without letters", sheetOf(0, 1, 2).pour(0), 0);
    }

    private static void reads() {
        RoadSorted x = sheetOf(1, 2, 1, 0);
        Due.due("reads(0) without letters", x.reads(0), 0);
        for (int i = 0; i < 3; i++) {
            x.letter(0, 10, 0);
        }
        Due.due("reads(0) of 0 1 2", x.reads(0), 0);
        x.halt();
        Due.due("reads(0) of 2 1 0", x.reads(0), NONE);
        x.mark(0, 2, 3);
        Due.due("reads(0): the last is not", x.reads(0), 2);
        x.mark(0, 1, NONE);
        x.mark(0, 2, NONE);
        Due.due("reads(0): of numbers alone", x.reads(0), NONE);
        fill(x, 1, 1, 2, 1, 0, NONE, 0, 0);
        Due.due("reads(1): beyond the bag", x.reads(1), 4);
        fill(x, 1, 1, 2, 1, 0, NONE);
        Due.due("reads(1): no number beyond the bag", x.reads(1), NONE);
        x.sheet(2, 0, 0);
        Due.due("reads(2): no places", x.reads(2), NONE);
        Due.due("reads(3)", x.reads(3), NOTHING);
        Due.due("reads(4)", x.reads(4), BAD);
        Due.due("reads(-1)", x.reads(-1), BAD);
    }

    private static void copy() {
        RoadSorted x = sheetOf(0, 1, 2, 3, 4, 5);
        fill(x, 1, 0, 10, 20, 30);
        Due.due("copy(0, 1, 1, 0, 2)", x.copy(0, 1, 1, 0, 2), 2);
        row("copy", x, 1, 2, 3, 30);
        row("copy leaves where it is from", x, 0, 1, 2, 3, 4, 5);
        Due.due("copy(0, 0, 0, 1, 4)", x.copy(0, 0, 0, 1, 4), 4);
        row("copy down in one", x, 0, 1, 1, 2, 3, 4);
        Due.due("copy(0, 2, 0, 0, 3)", x.copy(0, 2, 0, 0, 3), 3);
        row("copy up in one", x, 0, 2, 3, 4, 3, 4);
        Due.due("copy(0, 0, 0, 0, 5)", x.copy(0, 0, 0, 0, 5), 5);
        row("copy onto itself", x, 0, 2, 3, 4, 3, 4);
        Due.due("copy(0, 5, 1, 3, 0): at the ends", x.copy(0, 5, 1, 3, 0), 0);
        row("copy of none", x, 1, 2, 3, 30);
        fill(x, 2, 1, 7, NONE, 9);
        fill(x, 3, 1, 0, 0, 0);
        Due.due("copy(2, 0, 3, 0, 3)", x.copy(2, 0, 3, 0, 3), 3);
        row("copy of floats", x, 3, 7, KIND, 9);
    }

    private static void copyFindings() {
        RoadSorted x = sheetOf(0, 1, 2, 3, 4, 5);
        fill(x, 1, 0, 10, 20, 30);
        fill(x, 2, 1, 7, 8);
        int[][] index = {{0, 0, 1, 0, 4}, {0, 3, 1, 0, 3}, {0, -1, 1, 0, 1}, {0, 0, 1, -1, 1}, {0, 0, 1, 3, 1}, {0, 6, 1, 0, 0},
            {0, 0, 1, 4, 0}, {0, 0, 1, 0, -1}, {0, 0, 1, 0, MIN}, {0, 1, 1, 0, MAX}, {0, MAX, 1, 0, 1}, {0, 0, 1, MAX, MAX},
            {0, MIN, 1, 0, 0}, {0, 0, 0, 2, 4}, {0, 2, 0, 0, 4}};
        for (int[] c : index) {
            Due.due("copy" + java.util.Arrays.toString(c), x.copy(c[0], c[1], c[2], c[3], c[4]), INDEX);
        }
        Due.due("copy(0, 0, 2, 0, 1)", x.copy(0, 0, 2, 0, 1), KIND);
        Due.due("copy(2, 0, 0, 0, 1)", x.copy(2, 0, 0, 0, 1), KIND);
        Due.due("copy(2, 9, 0, 0, 0): KIND stands first", x.copy(2, 9, 0, 0, 0), KIND);
        Due.due("copy(3, 0, 0, 0, 0)", x.copy(3, 0, 0, 0, 0), NOTHING);
        Due.due("copy(0, 0, 3, 0, 0)", x.copy(0, 0, 3, 0, 0), NOTHING);
        Due.due("copy(3, -1, 3, -1, -1): NOTHING stands first", x.copy(3, -1, 3, -1, -1), NOTHING);
        Due.due("copy(4, 0, 0, 0, 0)", x.copy(4, 0, 0, 0, 0), BAD);
        Due.due("copy(-1, 0, 0, 0, 0)", x.copy(-1, 0, 0, 0, 0), BAD);
        Due.due("copy(0, 0, 4, 0, 0)", x.copy(0, 0, 4, 0, 0), BAD);
        Due.due("copy(3, 0, -1, 0, 0): BAD stands first", x.copy(3, 0, -1, 0, 0), BAD);
        row("refused ones change nothing", x, 0, 1, 2, 3, 4, 5);
        row("refused ones change nothing", x, 1, 10, 20, 30);
    }

    private static void miles() {
        // Towns 1 2 3; behind 1 jolt 2 1 3; behind 2 jolts 2 3 1; behind 3 jolts 3 2 1.
        int[][] sheets = {{1, 2, 3}, {2, 1, 3}, {2, 3, 1}, {3, 2, 1}, {3}, {0, 9}, {3, NONE, 1}, {NONE, 3}, {}, {NONE}, {3, 2, 1, 7, 5},
            {9, 9, 9}, {99999, -99999, 0}};
        int[] number = {0, 1, 2, 3, 3, 0, 3, 2, 0, 0, 3, 0, 3};
        int[] differences = {0, 0, 0, 0, 0, 8, 0, 0, 0, 0, 12, 21, 199998};
        for (int i = 0; i < sheets.length; i++) {
            RoadSorted x = sheetOf(1, sheets[i]);
            x.letter(0, 10, 1);
            x.letter(0, 20, 2);
            x.letter(0, 30, 3);
            Due.due("miles(0, 0) of sheet " + i, x.miles(0, 0), number[i]);
            Due.due("miles(0, 1) of sheet " + i, x.miles(0, 1), differences[i]);
        }
    }

    private static void milesFindings() {
        RoadSorted none = sheetOf(0, 3, -4, 5);
        Due.due("miles(0, 0) without letters", none.miles(0, 0), 0);
        Due.due("miles(0, 1) without letters", none.miles(0, 1), 12);
        Due.due("miles(1, 0)", none.miles(1, 0), NOTHING);
        Due.due("miles(1, 2): BAD stands first", none.miles(1, 2), BAD);
        Due.due("miles(0, -1)", none.miles(0, -1), BAD);
        Due.due("miles(4, 0)", none.miles(4, 0), BAD);
        Due.due("miles(-1, 0)", none.miles(-1, 0), BAD);
        // Two letters that change places at one jolt: behind which one the upper one first is of town 5.
        for (int wait = 0; wait < 2; wait++) {
            RoadSorted x = sheetOf(0, 5);
            x.letter(0, 10, 0);
            x.letter(0, 90, 5);
            Due.text(x, "rise t");
            if (wait == 1) {
                x.jolts(1);
                x.halt();
            }
            Due.due("miles(0, 0), wait " + wait, x.miles(0, 0), 1 + wait);
        }
        // One that a bump alone brings up: behind 60 jolts at the latest it counts, behind 61 not.
        int latest = 0;
        int beyond = 0;
        for (int seed = 0; seed < 4000; seed++) {
            RoadSorted x = sheetOf(0, 5);
            x.letter(0, 10, 0);
            x.letter(0, 10, 5);
            x.bump(2);
            x.seed(seed * 7919);
            int first = 0;
            for (int n = 1; n <= 62 && first == 0; n++) {
                if (x.behind(n, 2) == 1) {
                    first = n;
                }
            }
            latest += first == 60 ? 1 : 0;
            beyond += first == 61 ? 1 : 0;
            if (first == 60 || first == 61 || seed < 50) {
                Due.due("miles(0, 0) of seed " + seed, x.miles(0, 0), first <= 60 ? first : 0);
                Due.due("miles(0, 1) of seed " + seed, x.miles(0, 1), first <= 60 && first > 0 ? 0 : 5);
            }
        }
        Due.holds("some come behind 60 jolts, some behind 61", latest > 0 && beyond > 0);
    }

    private static void lay() {
        RoadSorted x = sheetOf(0, 1);
        x.letter(0, 10, 0);
        Due.due("lay(0, 3, MIN)", x.lay(0, 3, MIN), 0);
        Due.due("lay(0, 2, 0)", x.lay(0, 2, 0), 3);
        Due.due("lay(0, 1, 0)", x.lay(0, 1, 0), 2);
        Due.due("lay(0, 0, -7)", x.lay(0, 0, -7), 1);
        Due.due("lay(0, 0, 0)", x.lay(0, 0, 0), 0);
        Due.due("lay(4, 3, 5)", x.lay(4, 3, 5), 0);
        Due.due("lay(5, 3, 5)", x.lay(5, 3, 5), BAD);
        Due.due("lay(-1, 3, 5)", x.lay(-1, 3, 5), BAD);
        Due.due("lay(4, 4, 0)", x.lay(4, 4, 0), BAD);
        Due.due("lay(4, -1, 0)", x.lay(4, -1, 0), BAD);
        Due.due("lay(4, 1, 1)", x.lay(4, 1, 1), BAD);
        Due.due("lay(4, 1, -1)", x.lay(4, 1, -1), BAD);
        Due.due("lay(4, 2, 4)", x.lay(4, 2, 4), BAD);
        Due.due("lay(4, 2, -1)", x.lay(4, 2, -1), BAD);
        Due.due("lay(4, 2, 1)", x.lay(4, 2, 1), NOTHING);
        Due.due("lay(5, 2, 1): BAD stands first", x.lay(5, 2, 1), BAD);
        Due.due("refused ones change nothing", x.rest(4, 3), 2);
    }

    private static void slotsAreTheirOwn() {
        RoadSorted x = sheetOf(0, 1, 2);
        x.letter(1, 10, 0);
        x.lay(0, 1, 0);
        x.lay(1, 2, 0);
        x.lay(2, 2, 0);
        x.lay(3, 3, 8);
        x.turns(0, 5);
        x.set(0, 1, 90);
        x.mark(0, 0, 77);
        x.lay(2, 2, 0);
        x.keep();
        x.back();
        x.sheet(0, -1, 0);
        Due.due("the letter is as it was", x.ask(0, 1), 17);
        Due.due("the letter's kind is as it was", x.ask(0, 5), KIND);
        Due.due("the row is as it was", x.item(1, 0), 1);
        Due.due("the row laid later", x.item(2, 0), 77);
        Due.due("the number", x.rest(3, 5), 3);
    }

    private static void ask() {
        int[] worth = {30, 37, 69, 74, 63, 2};
        int[][] of = {{0}, {0, 1}, {0, 2}, {0, 1, 3}, {0, 2, 4}, {0, 5}};
        for (int is = 0; is < 6; is++) {
            RoadSorted x = new RoadSorted();
            x.letter(is, 30, 0);
            x.lay(1, 1, 0);
            for (int kind = 0; kind < 6; kind++) {
                int want = KIND;
                for (int k : of[is]) {
                    want = k == kind ? worth[is] : want;
                }
                Due.due("ask(1, " + kind + ") of " + is, x.ask(1, kind), want);
            }
        }
        RoadSorted x = sheetOf(0, 1);
        Due.due("ask(0, 0)", x.ask(0, 0), NOTHING);
        Due.due("ask(0, 6): BAD stands first", x.ask(0, 6), BAD);
        Due.due("ask(0, -1)", x.ask(0, -1), BAD);
        Due.due("ask(5, 0)", x.ask(5, 0), BAD);
        Due.due("ask(-1, 0)", x.ask(-1, 0), BAD);
        x.lay(0, 2, 0);
        Due.due("ask(0, 0) of a sheet", x.ask(0, 0), KIND);
        x.lay(0, 3, 0);
        Due.due("ask(0, 0) of a number", x.ask(0, 0), KIND);
    }

    private static void item() {
        RoadSorted x = sheetOf(1, 5, NONE, -8);
        x.letter(0, 10, 0);
        Due.due("item(0, 0)", x.item(0, 0), NOTHING);
        Due.due("item(5, 0)", x.item(5, 0), BAD);
        Due.due("item(-1, 0)", x.item(-1, 0), BAD);
        x.lay(0, 2, 0);
        Due.due("item(0, 0)", x.item(0, 0), 5);
        Due.due("item(0, 1)", x.item(0, 1), KIND);
        Due.due("item(0, 2)", x.item(0, 2), -8);
        Due.due("item(0, 3)", x.item(0, 3), INDEX);
        Due.due("item(0, -1)", x.item(0, -1), INDEX);
        Due.due("item(0, MAX)", x.item(0, MAX), INDEX);
        x.lay(0, 1, 0);
        Due.due("item(0, 9) of a letter", x.item(0, 9), KIND);
        x.lay(0, 3, 0);
        Due.due("item(0, 0) of a number", x.item(0, 0), KIND);
        x.lay(0, 0, 0);
        Due.due("item(0, 0) of nothing again", x.item(0, 0), NOTHING);
    }

    private static void rest() {
        RoadSorted x = sheetOf(0, 1);
        x.letter(0, 10, 0);
        Due.due("rest(0, 0): NOTHING stands first", x.rest(0, 0), NOTHING);
        Due.due("rest(5, 1)", x.rest(5, 1), BAD);
        Due.due("rest(-1, 0)", x.rest(-1, 0), BAD);
        int[][] rests = {{17, 5, 2}, {-17, 5, -2}, {17, -5, 2}, {-17, -5, -2}, {MIN, -1, 0}, {MIN, MAX, -1}, {0, 3, 0}, {5, MIN, 5}};
        for (int[] r : rests) {
            x.lay(0, 3, r[0]);
            Due.due("rest of " + r[0] + " by " + r[1], x.rest(0, r[1]), r[2]);
        }
        Due.due("rest(0, 0)", x.rest(0, 0), NO);
        x.lay(0, 1, 0);
        Due.due("rest(0, 0) of a letter: KIND stands first", x.rest(0, 0), KIND);
        x.lay(0, 2, 0);
        Due.due("rest(0, 1) of a sheet", x.rest(0, 1), KIND);
    }
}
