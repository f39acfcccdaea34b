import java.util.List;

/** Each sentence of promises 1 to 12, and of terms 1 and 2, that names a bound: within it, beyond it, and what a refused call leaves. */
public final class EdgesOfLettersTest {
    private static final int BAD = RoadSorted.BAD, FULL = RoadSorted.FULL, KIND = RoadSorted.KIND;
    private static final int MIN = Integer.MIN_VALUE, MAX = Integer.MAX_VALUE;

    public static void main(String[] args) {
        newObject();
        letterIsBad();
        letterIsFull();
        newOneComesToTheBottom();
        movedIsZeroAtFirst();
        told();
        as();
        turns();
        set();
        puts();
        at();
        halt();
        bump();
        deal();
        dealIsWithinBounds();
        seed();
        risesAreHeld();
        worthAndGrips();
        Due.end();
    }

    /** Promise 1: "As told; no LETTERS." Whatever needs one is refused. */
    private static void newObject() {
        State s = State.NEW;
        int[] counts = {0, 0, 0, 0, 0, 0, 0, 1};
        for (int what = 0; what < counts.length; what++) {
            Edge.tells(s, counts[what], "count", what);
        }
        for (int what = 0; what < 5; what++) {
            Edge.tells(s, 0, "bag", what);
        }
        Edge.refused(s, BAD, "told", 0, 0);
        Edge.refused(s, BAD, "as", 0, 0);
        Edge.refused(s, BAD, "turns", 0, 0);
        Edge.refused(s, BAD, "set", 0, 1, 1);
        Edge.refused(s, BAD, "puts", 0, 0);
        Edge.refused(s, BAD, "at", 0);
        Edge.refused(s, BAD, "fine", 0);
        Edge.refused(s, BAD, "padding", 0, 1, 0);
        Edge.refused(s, BAD, "behind", 0, 2);
        Edge.refused(s, BAD, "lay", 0, 1, 0);
        Edge.does(s, 0, "letter", 0, 1, 0);
        Edge.does(s, 0, "halt");
        Edge.does(s, 14, "deal", 14);
    }

    /** Promise 2, with THICK 1 .. 99, TOWN 0 .. 9 and six KINDS. */
    private static void letterIsBad() {
        for (State s : List.of(State.NEW, State.SOME, State.LAST)) {
            Edge.within(s, "letter", 0, 0, 5, 0, 50, 5);
            Edge.within(s, "letter", 1, 1, 99, 5, 50, 5);
            Edge.within(s, "letter", 2, 0, 9, 3, 50, 5);
        }
        Edge.refused(State.SOME, BAD, "letter", -1, 0, 10);
        Edge.does(State.SOME, 4, "letter", 5, 99, 9);
    }

    /** "LETTERS, 14 at most"; BAD stands ahead of FULL. */
    private static void letterIsFull() {
        State s = State.MOST;
        Edge.refused(s, FULL, "letter", 0, 1, 0);
        Edge.refused(s, FULL, "letter", 5, 99, 9);
        Edge.refused(s, BAD, "letter", 6, 1, 0);
        Edge.refused(s, BAD, "letter", 0, 0, 0);
        Edge.refused(s, BAD, "letter", 0, 100, 0);
        Edge.refused(s, BAD, "letter", 0, 1, 10);
        RoadSorted x = new RoadSorted();
        Due.due("deal(13)", x.deal(13), 13);
        Due.due("the 14th letter", x.letter(0, 7, 7), 13);
        Due.due("the 15th letter", x.letter(0, 7, 7), FULL);
        Due.due("PLACE of the 14th", x.told(13, 3), 13);
    }

    /** "a new one comes to the bottom", also behind jolts, halts, puts and back. */
    private static void newOneComesToTheBottom() {
        RoadSorted x = new RoadSorted();
        x.letter(0, 1, 0);
        x.letter(0, 99, 0);
        x.keep();
        x.jolts(1);
        Due.due("letter behind a jolt", x.letter(0, 99, 0), 2);
        Due.due("its PLACE", x.told(2, 3), 2);
        x.puts(2, 0);
        Due.due("letter behind puts", x.letter(0, 99, 0), 3);
        Due.due("its PLACE", x.told(3, 3), 3);
        x.halt();
        Due.due("letter behind a halt", x.letter(0, 99, 0), 4);
        Due.due("its PLACE", x.told(4, 3), 4);
        x.back();
        Due.due("letter behind back", x.letter(0, 99, 0), 2);
        Due.due("its PLACE", x.told(2, 3), 2);
    }

    /** "MOVED (0 at first)", also of a number that another letter had ahead of back. */
    private static void movedIsZeroAtFirst() {
        RoadSorted x = new RoadSorted();
        x.letter(0, 1, 0);
        x.keep();
        x.letter(0, 99, 0);
        x.jolts(1);
        Due.due("MOVED", x.told(1, 4), 1);
        x.keep();
        x.letter(0, 2, 0);
        x.letter(0, 90, 0);
        x.jolts(3);
        Due.holds("MOVED", x.told(3, 4) > 0);
        x.back();
        x.letter(0, 2, 0);
        x.letter(0, 90, 0);
        Due.due("MOVED of a new one", x.told(2, 4), 0);
        Due.due("MOVED of a new one", x.told(3, 4), 0);
        x.turns(1, 4);
        x.set(1, 1, 5);
        x.puts(1, 2);
        x.halt();
        Due.due("MOVED is of jolts alone", x.told(1, 4), 1);
    }

    private static void told() {
        for (State s : List.of(State.SOME, State.MOST, State.LAST)) {
            Edge.within(s, "told", 0, 0, s.letters() - 1, 0, 3);
            Edge.within(s, "told", 1, 0, 7, 1, 0);
        }
        Edge.refused(State.SOME, BAD, "told", 4, 8);
        Edge.tells(State.SOME, 2, "told", 3, 0);
        Edge.tells(State.SOME, 99, "told", 3, 1);
        Edge.tells(State.SOME, 9, "told", 3, 2);
        Edge.tells(State.SOME, 3, "told", 3, 3);
        Edge.tells(State.SOME, 0, "told", 3, 4);
        Edge.tells(State.SOME, 103, "told", 3, 5);
        Edge.tells(State.SOME, 10, "told", 3, 6);
        Edge.tells(State.SOME, 0, "told", 3, 7);
    }

    /** Promise 4: BAD stands ahead of KIND. */
    private static void as() {
        for (State s : List.of(State.SOME, State.MOST)) {
            Edge.within(s, "as", 0, 0, s.letters() - 1, 0, 0);
        }
        for (int kind : new int[] {MIN, -1, 6, MAX}) {
            Edge.refused(State.SOME, BAD, "as", 0, kind);
        }
        Edge.tells(State.SOME, 10, "as", 0, 0);
        Edge.refused(State.SOME, KIND, "as", 0, 1);
        Edge.refused(State.SOME, KIND, "as", 0, 5);
        Edge.tells(State.SOME, 50, "as", 1, 0);
        Edge.tells(State.SOME, 50, "as", 1, 1);
        Edge.refused(State.SOME, KIND, "as", 1, 3);
        Edge.tells(State.SOME, 99, "as", 3, 2);
        Edge.refused(State.SOME, KIND, "as", 3, 4);
        Edge.tells(State.SOME, 40, "as", 2, 5);
        Edge.refused(State.SOME, BAD, "as", 4, 1);
    }

    private static void turns() {
        for (State s : List.of(State.SOME, State.MOST)) {
            Edge.within(s, "turns", 0, 0, s.letters() - 1, 0, 3);
            Edge.within(s, "turns", 1, 0, 5, 1, 0);
        }
        Edge.refused(State.SOME, BAD, "turns", 4, 6);
        Edge.does(State.SOME, 1, "turns", 1, 3);
        Edge.does(State.SOME, 1, "turns", 1, 1);
        Edge.does(State.SOME, 5, "turns", 2, 4);
    }

    /** Promise 6: THICK 1 .. 99, TOWN 0 .. 9, no other what. */
    private static void set() {
        for (State s : List.of(State.SOME, State.MOST)) {
            Edge.within(s, "set", 0, 0, s.letters() - 1, 0, 1, 33);
            Edge.within(s, "set", 0, 0, s.letters() - 1, 0, 2, 3);
            Edge.within(s, "set", 1, 1, 2, 0, 1, 3);
            Edge.within(s, "set", 2, 1, 99, 1, 1, 0);
            Edge.within(s, "set", 2, 0, 9, 1, 2, 0);
        }
        Edge.does(State.SOME, 10, "set", 0, 1, 10);
        Edge.does(State.SOME, 9, "set", 3, 2, 9);
        Edge.refused(State.SOME, BAD, "set", 0, 0, 1);
        Edge.refused(State.SOME, BAD, "set", 0, 3, 1);
        Edge.refused(State.SOME, BAD, "set", 0, 2, 50);
    }

    private static void puts() {
        for (State s : List.of(State.SOME, State.MOST, State.LAST)) {
            Edge.within(s, "puts", 0, 0, s.letters() - 1, 0, 1);
            Edge.within(s, "puts", 1, 0, s.letters() - 1, 2, 1);
        }
        Edge.does(State.SOME, 3, "puts", 3, 3);
        Edge.does(State.SOME, 3, "puts", 3, 0);
        Edge.refused(State.SOME, BAD, "puts", 3, 4);
        RoadSorted one = new RoadSorted();
        one.letter(0, 1, 0);
        Due.due("puts(0, 0) of one", one.puts(0, 0), 0);
        Due.due("puts(0, 1) of one", one.puts(0, 1), BAD);
        Due.due("at(0)", one.at(0), 0);
    }

    private static void at() {
        for (State s : List.of(State.SOME, State.MOST, State.LAST)) {
            Edge.within(s, "at", 0, 0, s.letters() - 1, 0);
        }
        Edge.tells(State.SOME, 3, "at", 3);
        Edge.refused(State.SOME, BAD, "at", 4);
    }

    /** Promise 9, of none, of one, of all. */
    private static void halt() {
        Edge.does(State.NEW, 0, "halt");
        Edge.does(State.SOME, 4, "halt");
        Edge.does(State.MOST, 14, "halt");
        Edge.does(State.LAST, 3, "halt");
        RoadSorted one = new RoadSorted();
        one.letter(0, 1, 0);
        Due.due("halt() of one", one.halt(), 1);
        Due.due("at(0)", one.at(0), 0);
        one.letter(0, 1, 0);
        Due.due("halt() of two", one.halt(), 2);
        Due.due("at(0)", one.at(0), 1);
        Due.due("at(1)", one.at(1), 0);
    }

    private static void bump() {
        for (State s : State.values()) {
            Edge.within(s, "bump", 0, 0, 100, 0);
        }
        Edge.does(State.NEW, 0, "bump", 100);
        Edge.does(State.SOME, 30, "bump", 0);
        Edge.does(State.MOST, 100, "bump", 100);
    }

    /** Promise 11: "n (1 .. 14) of them, as many as there is room for (no draws for others)". */
    private static void deal() {
        for (State s : State.values()) {
            Edge.within(s, "deal", 0, 1, 14, 1);
        }
        Edge.does(State.SOME, 10, "deal", 14);
        Edge.does(State.SOME, 10, "deal", 11);
        Edge.does(State.SOME, 10, "deal", 10);
        Edge.does(State.SOME, 9, "deal", 9);
        Edge.tells(State.MOST, 0, "deal", 1);
        Edge.tells(State.MOST, 0, "deal", 14);
        Edge.refused(State.MOST, BAD, "deal", 0);
        Edge.refused(State.MOST, BAD, "deal", 15);
    }

    /** "KIND the rest of a draw by 6, THICK 1 and that of one more by 99, TOWN that of one more by 10": all come, none beyond. */
    private static void dealIsWithinBounds() {
        boolean[] kinds = new boolean[6];
        boolean[] thick = new boolean[100];
        boolean[] towns = new boolean[10];
        for (int seed = -200; seed < 200; seed++) {
            RoadSorted x = new RoadSorted();
            x.seed(seed * 9999991);
            x.deal(14);
            for (int i = 0; i < 14; i++) {
                Due.holds("THICK 1 .. 99", x.told(i, 1) >= 1 && x.told(i, 1) <= 99);
                Due.holds("KIND, TOWN", x.told(i, 0) >= 0 && x.told(i, 0) <= 5 && x.told(i, 2) >= 0 && x.told(i, 2) <= 9);
                kinds[x.told(i, 0)] = true;
                thick[x.told(i, 1)] = true;
                towns[x.told(i, 2)] = true;
            }
        }
        for (int v = 0; v < 100; v++) {
            Due.holds("THICK " + v + " comes, but for 0", thick[v] == (v > 0));
            Due.holds("KIND " + v + " comes", v > 5 || kinds[v]);
            Due.holds("TOWN " + v + " comes", v > 9 || towns[v]);
        }
    }

    /** Promise 12 takes every int; a draw wraps. */
    private static void seed() {
        for (int v : new int[] {MIN, -1, 0, 1, MAX, BAD}) {
            Edge.does(State.NEW, 1, "seed", v);
            RoadSorted x = new RoadSorted();
            x.seed(v);
            x.letter(0, 1, 0);
            x.jolts(1);
            Due.due("z behind a draw from " + v, x.count(7), (int) (v * 1103515245L + 12345L));
        }
        Edge.does(State.SOME, State.SOME.made(true).call("count", 7), "seed", MAX);
    }

    /** "what rise gives, held within 0 .. 999", and each KIND's own least. */
    private static void risesAreHeld() {
        String[] e = {"0-1", "0", "1", "4", "5", "6", "19", "20", "21", "22", "23", "998", "999", "1000", "9999", "9999*9999*99", "0-9999*9999*99"};
        int[] held = {0, 0, 1, 4, 5, 6, 19, 20, 21, 22, 23, 998, 999, 999, 999, 999, 0};
        held[15] = 9999 * 9999 * 99 < 0 ? 0 : 999;
        held[16] = 9999 * 9999 * 99 < 0 ? 999 : 0;
        for (int i = 0; i < e.length; i++) {
            RoadSorted x = new RoadSorted();
            for (int kind = 0; kind < 6; kind++) {
                x.letter(kind, 50, 5);
            }
            Due.text(x, "rise " + e[i]);
            int silk = held[i] <= 20 ? 0 : held[i] - 20;
            int wet = held[i] <= 5 ? 0 : held[i] - 5;
            int[] want = {held[i], silk, wet, silk / 2, 0, 2 * held[i]};
            for (int kind = 0; kind < 6; kind++) {
                Due.due("rise " + e[i] + ": RISES of KIND " + kind, x.told(kind, 5), want[kind]);
            }
        }
    }

    /** At THICK 1 and 99: WORTH is not held, GRIPS are of the KIND alone. */
    private static void worthAndGrips() {
        int[] atLeast = {1, 8, 98, 16, 92, 2};
        int[] atMost = {99, 106, 0, 212, -6, 2};
        int[] grips = {2, 0, 10, 4, 20, 1};
        for (int kind = 0; kind < 6; kind++) {
            RoadSorted x = new RoadSorted();
            x.letter(kind, 1, 0);
            x.letter(kind, 99, 0);
            Due.due("WORTH of KIND " + kind + ", THICK 1", x.told(0, 7), atLeast[kind]);
            Due.due("WORTH of KIND " + kind + ", THICK 99", x.told(1, 7), atMost[kind]);
            Due.due("GRIPS of KIND " + kind, x.told(0, 6), grips[kind]);
            Due.due("GRIPS of KIND " + kind, x.told(1, 6), grips[kind]);
        }
    }
}
