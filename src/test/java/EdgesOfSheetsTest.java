/** Each sentence of promises 29 to 37, and of term 5, that names a bound: within it, beyond it, and what a refused call leaves. */
public final class EdgesOfSheetsTest {
    private static final int BAD = RoadSorted.BAD, NO = RoadSorted.NO, NONE = RoadSorted.NONE, NOTHING = RoadSorted.NOTHING;
    private static final int KIND = RoadSorted.KIND, INDEX = RoadSorted.INDEX, SIZE = RoadSorted.SIZE;
    private static final int MIN = Integer.MIN_VALUE, MAX = Integer.MAX_VALUE;

    public static void main(String[] args) {
        missingAtFirst();
        sheet();
        sheetIsAllZero();
        mark();
        markOfShorts();
        markOfFloats();
        pour();
        pourIsHeld();
        reads();
        readsBeyondTheBag();
        copy();
        copyByPlaces();
        copyOntoItself();
        lay();
        laidForGood();
        ask();
        item();
        rest();
        Due.end();
    }

    /** "or MISSING (at first)", "SLOTS 0 .. 4 each hold nothing (at first)". */
    private static void missingAtFirst() {
        State s = State.NEW;
        for (int sheet = 0; sheet < 4; sheet++) {
            Edge.refused(s, NOTHING, "mark", sheet, 0, 0);
            Edge.refused(s, NOTHING, "pour", sheet);
            Edge.refused(s, NOTHING, "reads", sheet);
            Edge.refused(s, NOTHING, "copy", sheet, 0, sheet, 0, 0);
            Edge.refused(s, NOTHING, "lay", 0, 2, sheet);
        }
        for (int slot = 0; slot < 5; slot++) {
            Edge.refused(s, NOTHING, "ask", slot, 0);
            Edge.refused(s, NOTHING, "item", slot, 0);
            Edge.refused(s, NOTHING, "rest", slot, 0);
            Edge.tells(s, 0, "lay", slot, 0, MIN);
        }
    }

    /** Promise 29: "BAD: sheet, sort, n above 24; SIZE", "sort -1: MISSING, n any". */
    private static void sheet() {
        Edge.within(State.SOME, "sheet", 0, 0, 3, 0, 0, 5);
        Edge.within(State.SOME, "sheet", 1, -1, 1, 0, 0, 0);
        for (int sort = 0; sort < 2; sort++) {
            for (State s : new State[] {State.NEW, State.SOME, State.MOST}) {
                Edge.refused(s, SIZE, "sheet", 1, sort, MIN);
                Edge.refused(s, SIZE, "sheet", 1, sort, -1);
                Edge.does(s, 0, "sheet", 1, sort, 0);
                Edge.does(s, 1, "sheet", 1, sort, 1);
                Edge.does(s, 23, "sheet", 1, sort, 23);
                Edge.does(s, 24, "sheet", 1, sort, 24);
                Edge.refused(s, BAD, "sheet", 1, sort, 25);
                Edge.refused(s, BAD, "sheet", 1, sort, MAX);
            }
        }
        for (int n : new int[] {MIN, -1, 0, 24, 25, MAX}) {
            Edge.does(State.SOME, 0, "sheet", 1, -1, n);
            Edge.tells(State.SOME, 0, "sheet", 3, -1, n);
            Edge.refused(State.SOME, BAD, "sheet", 4, -1, n);
            Edge.refused(State.SOME, BAD, "sheet", -1, 0, n);
            Edge.refused(State.SOME, BAD, "sheet", 0, -2, n);
            Edge.refused(State.SOME, BAD, "sheet", 0, 2, n);
        }
    }

    /** "all 0", whatever was there. */
    private static void sheetIsAllZero() {
        RoadSorted x = new RoadSorted();
        x.sheet(0, 1, 24);
        for (int p = 0; p < 24; p++) {
            x.mark(0, p, p % 2 == 0 ? NONE : 77);
        }
        for (int sort = 0; sort < 2; sort++) {
            x.sheet(0, -1, 0);
            Due.due("sheet(0, " + sort + ", 24)", x.sheet(0, sort, 24), 24);
            x.lay(0, 2, 0);
            for (int p = 0; p < 24; p++) {
                Due.due("place " + p, x.item(0, p), 0);
                x.mark(0, p, 5);
            }
        }
    }

    /** Promise 30: "BAD: sheet; NOTHING; INDEX; KIND: NONE in a row of shorts; BAD: v of floats", the first that stands. */
    private static void mark() {
        State s = State.SOME;
        for (int v : new int[] {0, NONE, 100000, MIN}) {
            Edge.refused(s, BAD, "mark", -1, 0, v);
            Edge.refused(s, BAD, "mark", 4, 0, v);
            Edge.refused(s, BAD, "mark", MIN, -1, v);
            Edge.refused(s, BAD, "mark", MAX, 99, v);
            Edge.refused(s, NOTHING, "mark", 3, 0, v);
            Edge.refused(s, NOTHING, "mark", 3, -1, v);
            Edge.refused(s, INDEX, "mark", 0, -1, v);
            Edge.refused(s, INDEX, "mark", 0, 3, v);
            Edge.refused(s, INDEX, "mark", 1, 4, v);
            Edge.refused(s, INDEX, "mark", 1, MIN, v);
            Edge.refused(s, INDEX, "mark", 1, MAX, v);
            Edge.refused(s, INDEX, "mark", 2, 0, v);
        }
        Edge.refused(s, KIND, "mark", 0, 0, NONE);
        Edge.refused(s, KIND, "mark", 0, 2, NONE);
        Edge.refused(s, BAD, "mark", 1, 3, 100000);
        Edge.does(s, 1, "mark", 0, 0, 5);
        Edge.does(s, 1, "mark", 0, 2, 5);
        Edge.does(s, 1, "mark", 1, 3, NONE);
        Edge.does(s, 1, "mark", 1, 1, 5);
        Edge.does(State.MOST, 1, "mark", 0, 23, 5);
        Edge.refused(State.MOST, INDEX, "mark", 0, 24, 5);
    }

    /** "of shorts its lowest 16 bits": every int but NONE is taken. */
    private static void markOfShorts() {
        int[] v = {-1, 32766, 32767, 32768, 32769, 65534, 65535, 65536, 65537, -32767, -32768, -32769, -65535, -65536, -65537, MAX, MIN,
            100000, -100000, BAD, NO, NOTHING, KIND, INDEX, SIZE, NONE - 1, NONE + 1};
        for (int each : v) {
            int low = each & 65535;
            RoadSorted x = new RoadSorted();
            x.sheet(3, 0, 2);
            Due.due("mark(3, 1, " + each + ")", x.mark(3, 1, each), 1);
            x.lay(0, 2, 3);
            Due.due("the place is then", x.item(0, 1), low < 32768 ? low : low - 65536);
            Due.due("the other place", x.item(0, 0), 0);
            Edge.does(State.SOME, 1, "mark", 0, 1, each);
        }
    }

    /** "of floats v, -99999 .. 99999; NONE: NO NUMBER". */
    private static void markOfFloats() {
        for (int v : new int[] {MIN, -100000, 100000, MAX, BAD, NO, NOTHING, KIND, INDEX, SIZE, NONE - 1, NONE + 1}) {
            Edge.refused(State.SOME, BAD, "mark", 1, 0, v);
            Edge.refused(State.SOME, BAD, "mark", 1, 1, v);
        }
        for (int v : new int[] {-99999, -99998, -1, 0, 1, 65536, 99998, 99999}) {
            Edge.does(State.SOME, 1, "mark", 1, 0, v);
            Edge.does(State.SOME, 1, "mark", 1, 1, v);
            RoadSorted x = new RoadSorted();
            x.sheet(0, 1, 1);
            x.mark(0, 0, v);
            x.lay(0, 2, 0);
            Due.due("the place is then", x.item(0, 0), v);
        }
    }

    /** Promise 31: "BAD; NOTHING". */
    private static void pour() {
        for (int v : new int[] {MIN, -1, 4, MAX}) {
            Edge.refused(State.SOME, BAD, "pour", v);
            Edge.refused(State.NEW, BAD, "pour", v);
        }
        Edge.refused(State.SOME, NOTHING, "pour", 3);
        Edge.does(State.SOME, 3, "pour", 0);
        Edge.does(State.SOME, 2, "pour", 1);
        Edge.tells(State.SOME, 0, "pour", 2);
        for (int sheet = 0; sheet < 4; sheet++) {
            Edge.does(State.MOST, State.MOST.made(true).call("pour", sheet), "pour", sheet);
        }
    }

    /** "each held within 0 .. 9; NO NUMBER, and beyond the SHEET: they stay". */
    private static void pourIsHeld() {
        int[] v = {-99999, -1, 0, 1, 8, 9, 10, 99999, NONE};
        int[] town = {0, 0, 0, 1, 8, 9, 9, 9, 5};
        for (int i = 0; i < v.length; i++) {
            RoadSorted x = new RoadSorted();
            x.letter(0, 1, 5);
            x.letter(0, 1, 5);
            x.sheet(0, 1, 1);
            x.mark(0, 0, v[i]);
            x.halt();
            Due.due("pour of " + v[i], x.pour(0), town[i] == 5 ? 0 : 1);
            Due.due("TOWN", x.told(0, 2), town[i]);
            Due.due("TOWN beyond the sheet", x.told(1, 2), 5);
        }
        for (int places = 0; places <= 24; places++) {
            RoadSorted x = new RoadSorted();
            for (int i = 0; i < 14; i++) {
                x.letter(0, 1, 5);
            }
            x.sheet(0, 0, places);
            Due.due("pour of " + places + " places", x.pour(0), Math.min(14, places));
            Due.due("pour again", x.pour(0), 0);
            for (int i = 0; i < 14; i++) {
                Due.due("TOWN of " + i, x.told(i, 2), i < places ? 0 : 5);
            }
        }
    }

    /** Promise 32: "BAD; NOTHING; NONE: there is none". */
    private static void reads() {
        for (int v : new int[] {MIN, -1, 4, MAX}) {
            Edge.refused(State.SOME, BAD, "reads", v);
            Edge.refused(State.NEW, BAD, "reads", v);
        }
        Edge.refused(State.SOME, NOTHING, "reads", 3);
        Edge.refused(State.SOME, NONE, "reads", 2);
        for (int sheet = 0; sheet < 4; sheet++) {
            Edge.tells(State.MOST, State.MOST.made(true).call("reads", sheet), "reads", sheet);
        }
    }

    /** "of places beyond the bag all numbers are not", "of numbers alone". */
    private static void readsBeyondTheBag() {
        for (int letters = 0; letters <= 14; letters++) {
            RoadSorted x = new RoadSorted();
            x.sheet(0, 0, 24);
            x.sheet(1, 1, 24);
            for (int p = 0; p < 24; p++) {
                x.mark(0, p, p);
                x.mark(1, p, p < letters ? p : NONE);
                if (p < letters) {
                    x.letter(0, 1, 0);
                }
            }
            Due.due("of " + letters + " letters", x.reads(0), letters);
            Due.due("of " + letters + " letters, no numbers beyond", x.reads(1), NONE);
            x.mark(1, 23, 0);
            Due.due("of " + letters + " letters, a number in the last place", x.reads(1), 23);
            for (int p = letters - 1; p >= 0; p--) {
                x.mark(1, p, p + 1);
                Due.due("the first that is not", x.reads(1), p);
                x.mark(1, p, NONE);
            }
        }
    }

    /** Promise 33: "BAD; NOTHING; KIND: they are not of one sort; INDEX", the first that stands. */
    private static void copy() {
        State s = State.SOME;
        for (int v : new int[] {MIN, -1, 4, MAX}) {
            Edge.refused(s, BAD, "copy", v, 0, 0, 0, 1);
            Edge.refused(s, BAD, "copy", 0, 0, v, 0, 1);
            Edge.refused(s, BAD, "copy", v, -1, 3, -1, -1);
            Edge.refused(s, BAD, "copy", 3, -1, v, -1, -1);
        }
        Edge.refused(s, NOTHING, "copy", 3, 0, 0, 0, 0);
        Edge.refused(s, NOTHING, "copy", 0, 0, 3, 0, 0);
        Edge.refused(s, NOTHING, "copy", 3, -1, 1, 9, -1);
        Edge.refused(s, NOTHING, "copy", 3, 0, 3, 0, 0);
        Edge.refused(s, KIND, "copy", 0, 0, 1, 0, 0);
        Edge.refused(s, KIND, "copy", 1, 0, 0, 0, 1);
        Edge.refused(s, KIND, "copy", 1, -1, 2, 9, -1);
        Edge.refused(s, INDEX, "copy", 0, 0, 2, 0, 1);
        Edge.refused(s, INDEX, "copy", 2, 0, 0, 0, 1);
        Edge.tells(s, 0, "copy", 2, 0, 2, 0, 0);
        Edge.tells(s, 0, "copy", 0, 3, 2, 0, 0);
        Edge.tells(s, 0, "copy", 1, 4, 1, 4, 0);
        Edge.does(s, 3, "copy", 0, 0, 0, 0, 3);
        Edge.does(s, 2, "copy", 1, 1, 1, 2, 2);
    }

    /** From place, to at, many: each of a row of 3 to one of 4, with all that lie within and right beyond. */
    private static void copyByPlaces() {
        for (int place = -1; place <= 4; place++) {
            for (int at = -1; at <= 5; at++) {
                for (int many = -1; many <= 5; many++) {
                    RoadSorted x = new RoadSorted();
                    x.sheet(0, 0, 3);
                    x.sheet(1, 0, 4);
                    int[] want = {10, 11, 12, 13};
                    for (int p = 0; p < 4; p++) {
                        x.mark(0, p, 1 + p);
                        x.mark(1, p, want[p]);
                    }
                    boolean taken = place >= 0 && at >= 0 && many >= 0 && place + many <= 3 && at + many <= 4;
                    Due.due(Calls.told("copy", 0, place, 1, at, many), x.copy(0, place, 1, at, many), taken ? many : INDEX);
                    for (int i = 0; taken && i < many; i++) {
                        want[at + i] = 1 + place + i;
                    }
                    x.lay(0, 2, 1);
                    x.lay(1, 2, 0);
                    for (int p = 0; p < 4; p++) {
                        Due.due("place " + p + " then", x.item(0, p), want[p]);
                        Due.due("where it is from", x.item(1, p), p < 3 ? 1 + p : INDEX);
                    }
                }
            }
        }
        int[][] far = {{0, MAX, 0, 0, 1}, {0, 1, 0, 0, MAX}, {0, 0, 0, 1, MAX}, {0, 0, 0, MAX, 1}, {0, MIN, 0, 0, 0}, {0, 0, 0, MIN, 0},
            {0, 0, 0, 0, MIN}, {0, MAX, 0, MAX, MAX}, {0, MAX, 0, 0, MIN}, {0, MIN, 0, MIN, MIN}, {0, MAX, 0, MAX, 0}};
        for (int[] c : far) {
            Edge.refused(State.SOME, INDEX, "copy", c);
        }
    }

    /** "or the same, as they were": up and down by each step, 24 places. */
    private static void copyOntoItself() {
        for (int from = 0; from < 24; from++) {
            for (int to = 0; to < 24; to += 5) {
                RoadSorted x = new RoadSorted();
                x.sheet(0, 1, 24);
                int[] want = new int[24];
                for (int p = 0; p < 24; p++) {
                    want[p] = 100 + p;
                    x.mark(0, p, want[p]);
                }
                int many = 24 - Math.max(from, to);
                int[] were = want.clone();
                for (int i = 0; i < many; i++) {
                    want[to + i] = were[from + i];
                }
                Due.due("one more is beyond it", x.copy(0, from, 0, to, many + 1), INDEX);
                Due.due("copy", x.copy(0, from, 0, to, many), many);
                x.lay(0, 2, 0);
                for (int p = 0; p < 24; p++) {
                    Due.due("place " + p + " then", x.item(0, p), want[p]);
                }
            }
        }
    }

    /** Promise 34: "BAD: slot, thing, k; NOTHING: that SHEET is MISSING". */
    private static void lay() {
        for (State s : new State[] {State.SOME, State.MOST}) {
            Edge.within(s, "lay", 0, 0, 4, 0, 3, 9);
            Edge.within(s, "lay", 1, 0, 3, 1, 0, 0);
            Edge.within(s, "lay", 2, 0, s.letters() - 1, 1, 1, 0);
            for (int v : new int[] {MIN, -1, 4, MAX}) {
                Edge.refused(s, BAD, "lay", 1, 2, v);
                Edge.refused(s, BAD, "lay", 5, 2, v);
            }
        }
        State s = State.SOME;
        Edge.refused(s, NOTHING, "lay", 1, 2, 3);
        Edge.refused(s, BAD, "lay", 5, 2, 3);
        Edge.refused(s, BAD, "lay", -1, 2, 3);
        Edge.refused(s, BAD, "lay", 1, 4, 3);
        int[] held = {0, 1, 2, 3, 2};
        for (int slot = 0; slot < 5; slot++) {
            for (int k : new int[] {MIN, -1, 0, MAX}) {
                Edge.does(s, held[slot], "lay", slot, 0, k);
                Edge.does(s, held[slot], "lay", slot, 3, k);
            }
            Edge.does(s, held[slot], "lay", slot, 1, 3);
            Edge.does(s, held[slot], "lay", slot, 2, 2);
        }
    }

    /** "a LETTER (as it is then, for good), a SHEET (a row of its own, as it was then)". */
    private static void laidForGood() {
        RoadSorted x = new RoadSorted();
        x.letter(0, 10, 1);
        x.keep();
        x.letter(3, 20, 2);
        x.sheet(0, 0, 2);
        x.mark(0, 0, 8);
        x.lay(0, 1, 1);
        x.lay(1, 2, 0);
        x.lay(2, 2, 0);
        x.set(1, 1, 99);
        x.turns(1, 4);
        x.mark(0, 0, 9);
        x.sheet(0, 1, 1);
        Due.due("the letter is as it was", x.ask(0, 3), 54);
        Due.due("its KIND too", x.ask(0, 4), KIND);
        x.back();
        Due.due("there is no such letter", x.told(1, 0), BAD);
        Due.due("but in the slot", x.ask(0, 3), 54);
        x.letter(5, 50, 2);
        Due.due("another one has its number", x.ask(0, 3), 54);
        Due.due("the row is as it was", x.item(1, 0), 8);
        Due.due("all of it", x.item(1, 1), 0);
        x.sheet(0, -1, 0);
        Due.due("without its sheet", x.item(2, 0), 8);
        x.lay(1, 3, 4);
        Due.due("slots are not one", x.item(2, 0), 8);
        x.sheet(0, 0, 0);
        x.lay(2, 2, 0);
        Due.due("a row without places", x.item(2, 0), INDEX);
    }

    /** Promise 35: "BAD; NOTHING; KIND: it is no LETTER, or not of that KIND, nor of one under it". */
    private static void ask() {
        State s = State.SOME;
        for (int v : new int[] {MIN, -1, 5, MAX}) {
            Edge.refused(s, BAD, "ask", v, 0);
        }
        for (int v : new int[] {MIN, -1, 6, MAX}) {
            for (int slot = 0; slot < 5; slot++) {
                Edge.refused(s, BAD, "ask", slot, v);
            }
        }
        for (int kind = 0; kind < 6; kind++) {
            Edge.refused(s, NOTHING, "ask", 0, kind);
            Edge.tells(s, kind <= 1 ? 57 : KIND, "ask", 1, kind);
            Edge.refused(s, KIND, "ask", 2, kind);
            Edge.refused(s, KIND, "ask", 3, kind);
            Edge.refused(s, KIND, "ask", 4, kind);
        }
    }

    /** Promise 36: "BAD: slot; NOTHING; KIND: it is no SHEET; INDEX; KIND: NO NUMBER". */
    private static void item() {
        State s = State.SOME;
        for (int place : new int[] {MIN, -1, 0, 99, MAX}) {
            Edge.refused(s, BAD, "item", -1, place);
            Edge.refused(s, BAD, "item", 5, place);
            Edge.refused(s, NOTHING, "item", 0, place);
            Edge.refused(s, KIND, "item", 1, place);
            Edge.refused(s, KIND, "item", 3, place);
        }
        for (int place : new int[] {MIN, -1, 4, MAX}) {
            Edge.refused(s, INDEX, "item", 2, place);
        }
        Edge.tells(s, 4, "item", 2, 0);
        Edge.refused(s, KIND, "item", 2, 1);
        Edge.tells(s, -7, "item", 2, 2);
        Edge.tells(s, 99999, "item", 2, 3);
        Edge.tells(s, 3, "item", 4, 0);
        Edge.tells(s, 0, "item", 4, 2);
        Edge.refused(s, INDEX, "item", 4, 3);
        Edge.tells(State.MOST, -99999, "item", 1, 23);
        Edge.refused(State.MOST, INDEX, "item", 1, 24);
        Edge.refused(s, BAD, "item", MIN, 0);
        Edge.refused(s, BAD, "item", MAX, 0);
    }

    /** Promise 37: "BAD: slot; NOTHING; KIND: it is no number; NO: n is 0". */
    private static void rest() {
        State s = State.SOME;
        for (int n : new int[] {MIN, -1, 0, 1, MAX}) {
            Edge.refused(s, BAD, "rest", -1, n);
            Edge.refused(s, BAD, "rest", 5, n);
            Edge.refused(s, BAD, "rest", MIN, n);
            Edge.refused(s, BAD, "rest", MAX, n);
            Edge.refused(s, NOTHING, "rest", 0, n);
            Edge.refused(s, KIND, "rest", 1, n);
            Edge.refused(s, KIND, "rest", 2, n);
        }
        Edge.refused(s, NO, "rest", 3, 0);
        Edge.tells(s, 0, "rest", 3, 1);
        Edge.tells(s, 0, "rest", 3, -1);
        Edge.tells(s, 0, "rest", 3, 17);
        Edge.tells(s, 17, "rest", 3, 18);
        Edge.tells(s, 1, "rest", 3, 16);
        Edge.tells(s, 1, "rest", 3, -16);
        Edge.tells(s, 17, "rest", 3, MIN);
        Edge.tells(State.MOST, 0, "rest", 2, -1);
        Edge.tells(State.MOST, 0, "rest", 2, MIN);
        Edge.tells(State.MOST, -1, "rest", 2, MAX);
        Edge.tells(State.MOST, -2, "rest", 2, 3);
        Edge.refused(State.MOST, NO, "rest", 2, 0);
    }
}
