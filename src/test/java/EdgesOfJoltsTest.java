import java.util.List;

/** Each sentence of promises 13 to 23, and of terms 2 and 3, that names a bound: within it, beyond it, and what a refused call leaves. */
public final class EdgesOfJoltsTest {
    private static final int BAD = RoadSorted.BAD, NONE = RoadSorted.NONE, NOTHING = RoadSorted.NOTHING;
    private static final int MIN = Integer.MIN_VALUE, MAX = Integer.MAX_VALUE;

    public static void main(String[] args) {
        jolts();
        joltsUpToTheLast();
        climbsByMore();
        whichNeighbours();
        drawsOfAJolt();
        bumpIsAbove();
        whichOneIsThrown();
        bag();
        messAndLayers();
        behind();
        rests();
        padding();
        paddingIsThick();
        stays();
        bundle();
        bundleOfNoneAndOfAll();
        halts();
        miles();
        milesByPlaces();
        feeAndFine();
        beyondTheLastJolt();
        Due.end();
    }

    /** Letters of kind 0 and of town 0. */
    private static RoadSorted of(int... thick) {
        RoadSorted x = new RoadSorted();
        for (int t : thick) {
            x.letter(0, t, 0);
        }
        return x;
    }

    /** Promise 13: "n (1 .. 100) JOLTS". */
    private static void jolts() {
        for (State s : State.values()) {
            Edge.within(s, "jolts", 0, 1, 100, 1);
        }
        RoadSorted x = of(1, 50, 99);
        Due.due("jolts(100)", x.jolts(100), 3);
        Due.due("THE JOLT", x.count(1), 100);
        Due.due("jolts(101)", x.jolts(101), BAD);
        Due.due("THE JOLT", x.count(1), 100);
    }

    /** "THE JOLT is 0 at first, 9999 at most", "no more than up to 9999". */
    private static void joltsUpToTheLast() {
        Edge.tells(State.LAST, 0, "jolts", 1);
        Edge.tells(State.LAST, 0, "jolts", 100);
        Edge.refused(State.LAST, BAD, "jolts", 0);
        Edge.refused(State.LAST, BAD, "jolts", 101);
        for (int more = 0; more <= 3; more++) {
            RoadSorted x = of(10, 20);
            for (int i = 0; i < 99; i++) {
                x.jolts(100);
            }
            x.jolts(98);
            x.halt();
            Due.due("THE JOLT", x.count(1), 9998);
            int z = x.count(7);
            if (more > 0) {
                Due.due("jolts(" + more + ") at 9998: one of an even JOLT", x.jolts(more), 1);
                z = (int) (z * 1103515245L + 12345L);
            }
            Due.due("THE JOLT", x.count(1), more == 0 ? 9998 : 9999);
            Due.due("one draw at most", x.count(7), z);
        }
    }

    /** "if it RISES by more than the upper one, and by more than both GRIP, together". */
    private static void climbsByMore() {
        int[] grips = {2, 0, 10, 4, 20, 1};
        for (int upper = 0; upper < 6; upper++) {
            for (int lower = 0; lower < 6; lower++) {
                RoadSorted x = new RoadSorted();
                x.letter(upper, 50, 0);
                x.letter(lower, 50, 1);
                // By the text the lower one's rise alone is told by its THICK, with steps of 1.
                Due.text(x, "rise (d=0)*40 + (d=1)*(t*5-d)");
                for (int thick = 1; thick <= 99; thick++) {
                    x.set(1, 1, thick);
                    boolean climbs = x.told(1, 5) - x.told(0, 5) > grips[upper] + grips[lower];
                    Due.due("KIND " + lower + " below " + upper + ", rise " + (5 * thick - 1), x.bag(3), climbs ? 1 : 0);
                }
            }
        }
        RoadSorted x = of(50, 54);
        Due.due("by as much as both grip", x.bag(3), 0);
        Due.due("no change", x.jolts(2), 0);
        x.set(1, 1, 55);
        Due.due("by one more", x.bag(3), 1);
        Due.due("a change", x.jolts(1), 1);
        RoadSorted silk = new RoadSorted();
        silk.letter(1, 50, 0);
        silk.letter(1, 50, 0);
        Due.due("without any grip: as much", silk.bag(3), 0);
        silk.set(1, 1, 51);
        Due.due("without any grip: one more", silk.bag(3), 1);
        silk.set(1, 1, 49);
        Due.due("without any grip: one less", silk.bag(3), 0);
    }

    /** "with p by 2 having the rest that THE JOLT has": the top and the bottom one may be without a neighbour. */
    private static void whichNeighbours() {
        int[][] changes = {{0, 0}, {0, 0}, {1, 0}, {1, 1}, {2, 1}, {2, 2}};
        for (int letters = 0; letters < changes.length; letters++) {
            for (int odd = 0; odd < 2; odd++) {
                RoadSorted x = new RoadSorted();
                if (odd == 1) {
                    x.jolts(1);
                }
                for (int i = 0; i < letters; i++) {
                    x.letter(0, 10 + 10 * i, 0);
                }
                Due.due(letters + " letters at JOLT " + odd, x.jolts(1), changes[letters][odd]);
                for (int p = 0; p < letters; p++) {
                    boolean alone = p < odd || (p - odd) % 2 == 0 && p + 1 == letters;
                    int letter = alone ? p : (p - odd) % 2 == 0 ? p + 1 : p - 1;
                    Due.due(letters + " letters at JOLT " + odd + ": at(" + p + ")", x.at(p), letter);
                    Due.due("MOVED of " + p, x.told(p, 4), alone ? 0 : 1);
                }
            }
        }
        RoadSorted most = of(1, 7, 14, 21, 28, 35, 42, 49, 56, 63, 70, 77, 84, 91);
        Due.due("14 letters at an even JOLT", most.jolts(1), 7);
        Due.due("14 letters at an odd JOLT", most.jolts(1), 6);
    }

    /** "(If there are LETTERS) a draw": one a jolt at BUMP 0, two at BUMP 100, none without LETTERS. */
    private static void drawsOfAJolt() {
        for (int letters = 0; letters < 3; letters++) {
            for (int bump = 0; bump <= 100; bump += 100) {
                RoadSorted x = new RoadSorted();
                for (int i = 0; i < letters; i++) {
                    x.letter(0, 5, 0);
                }
                x.seed(9);
                x.bump(bump);
                x.jolts(10);
                int z = 9;
                int draws = letters == 0 ? 0 : bump == 0 ? 10 : 20;
                for (int i = 0; i < draws; i++) {
                    z = (int) (z * 1103515245L + 12345L);
                }
                Due.due(letters + " letters, BUMP " + bump + ": z", x.count(7), z);
            }
        }
    }

    /** "if its rest by 100 is below BUMP": not if it is BUMP itself. */
    private static void bumpIsAbove() {
        boolean[] seen = new boolean[100];
        for (int seed = 0; seed < 2000; seed++) {
            int z = (int) (seed * 1103515245L + 12345L);
            int rest = (z >>> 8) % 100;
            if (seen[rest]) {
                continue;
            }
            seen[rest] = true;
            for (int bump = rest; bump <= rest + 1; bump++) {
                RoadSorted x = of(5, 5, 5);
                x.seed(seed);
                x.bump(bump);
                x.jolts(1);
                int second = (int) (z * 1103515245L + 12345L);
                Due.due("rest " + rest + ", BUMP " + bump + ": z", x.count(7), bump == rest ? z : second);
                Due.due("rest " + rest + ", BUMP " + bump + ": on top", x.at(0), bump == rest ? 0 : (second >>> 8) % 3);
            }
        }
        for (int rest = 0; rest < 100; rest++) {
            Due.holds("a draw with rest " + rest, seen[rest]);
        }
    }

    /** "the LETTER at the PLACE that is its rest by how many there are comes to the top, those above it come down by one". */
    private static void whichOneIsThrown() {
        boolean[] seen = new boolean[14];
        for (int seed = 0; seed < 400; seed++) {
            RoadSorted x = new RoadSorted();
            x.deal(14);
            for (int i = 0; i < 14; i++) {
                x.turns(i, 4);
            }
            x.seed(seed);
            x.bump(100);
            x.jolts(1);
            int z = (int) (seed * 1103515245L + 12345L);
            z = (int) (z * 1103515245L + 12345L);
            int place = (z >>> 8) % 14;
            if (!seen[place]) {
                for (int p = 0; p < 14; p++) {
                    Due.due("thrown from " + place + ": at(" + p + ")", x.at(p), p == 0 ? place : p <= place ? p - 1 : p);
                    Due.due("MOVED is as it was", x.told(p, 4), 0);
                }
                Due.due("CHANGES are as they were", x.bag(2), 0);
            }
            seen[place] = true;
        }
        for (int place = 0; place < 14; place++) {
            Due.holds("thrown from " + place, seen[place]);
        }
    }

    private static void bag() {
        for (State s : State.values()) {
            Edge.within(s, "bag", 0, 0, 4, 0);
        }
        Edge.tells(State.SOME, 199, "bag", 4);
        Edge.tells(State.LAST, 150, "bag", 4);
    }

    /** MESS: of two that rise alike there is none. LAYERS: of none, of one, of 14. */
    private static void messAndLayers() {
        RoadSorted x = new RoadSorted();
        for (int i = 0; i < 14; i++) {
            x.letter(0, 50, 3);
            Due.due("MESS of equal ones", x.bag(0), 0);
            Due.due("LAYERS of one TOWN", x.bag(1), 1);
        }
        for (int i = 0; i < 14; i++) {
            x.set(i, 1, 50 + i);
            x.set(i, 2, i % 2);
        }
        Due.due("MESS at most", x.bag(0), 91);
        Due.due("LAYERS at most", x.bag(1), 14);
        Due.due("none climbs by 1", x.bag(3), 0);
        Due.due("rests() with all the MESS", x.rests(), 0);
        x.set(0, 1, 51);
        Due.due("MESS, two alike", x.bag(0), 90);
        x.set(13, 2, 0);
        Due.due("LAYERS, the last two of one TOWN", x.bag(1), 13);
    }

    /** Promise 15: "n (0 .. 100)", "2 and p". */
    private static void behind() {
        for (State s : State.values()) {
            Edge.within(s, "behind", 0, 0, 100, 0, 0);
            Edge.within(s, "behind", 0, 0, 100, 0, 1);
            Edge.within(s, "behind", 1, 0, 1 + s.letters(), 3, 0);
        }
        Edge.within(State.SOME, "behind", 0, 0, 100, 0, 5);
        Edge.tells(State.SOME, 3, "behind", 0, 5);
        Edge.refused(State.SOME, BAD, "behind", 0, 6);
        Edge.refused(State.SOME, BAD, "behind", 101, 6);
        Edge.refused(State.NEW, BAD, "behind", 0, 2);
    }

    private static void rests() {
        Edge.tells(State.NEW, 0, "rests");
        RoadSorted one = of(50);
        Due.due("rests() of one", one.rests(), 0);
        for (State s : List.of(State.SOME, State.MOST, State.LAST)) {
            Edge.tells(s, s.made(true).call("rests"), "rests");
        }
        RoadSorted thrown = of(1, 99);
        thrown.bump(100);
        int first = thrown.rests();
        for (int n = 0; n < first; n++) {
            Due.due("not at rest behind " + n, thrown.bag(3), 1);
            thrown.jolts(1);
        }
        Due.due("at rest behind " + first, thrown.bag(3), 0);
    }

    /** Promise 17: two LETTERS, "BAD: also one and the same", "n (0 .. 40)". */
    private static void padding() {
        for (State s : List.of(State.SOME, State.LAST)) {
            for (int v : new int[] {MIN, -1, s.letters(), MAX}) {
                Edge.refused(s, BAD, "padding", v, 1, 1);
                Edge.refused(s, BAD, "padding", 1, v, 1);
            }
            for (int v : new int[] {MIN, -1, 41, MAX}) {
                Edge.refused(s, BAD, "padding", 0, 1, v);
            }
            for (int letter = 0; letter < s.letters(); letter++) {
                Edge.refused(s, BAD, "padding", letter, letter, 0);
            }
            for (int n : new int[] {0, 40}) {
                Edge.tells(s, s.made(true).call("padding", 0, s.letters() - 1, n), "padding", 0, s.letters() - 1, n);
                Edge.tells(s, s.made(true).call("padding", s.letters() - 1, 0, n), "padding", s.letters() - 1, 0, n);
            }
        }
        Edge.refused(State.NEW, BAD, "padding", 0, 0, 0);
        Edge.refused(State.MOST, BAD, "padding", 0, 14, 0);
        Edge.refused(State.MOST, BAD, "padding", 14, 0, 0);
    }

    /** "(0 .. 99 less THICK)": at THICK 99 there is 0 alone; "the least". */
    private static void paddingIsThick() {
        RoadSorted x = of(99, 99, 99);
        Due.due("beside already", x.padding(0, 1, 40), 0);
        Due.due("THICK 99, not beside", x.padding(0, 2, 40), NONE);
        x.set(2, 1, 98);
        Due.due("THICK 98, not beside with 1 more", x.padding(2, 0, 40), NONE);
        // The third climbs past the second, from 5 more than it on, and then is beside the first.
        for (int second = 93; second <= 96; second++) {
            RoadSorted y = of(99, second, 98);
            int want = second == 93 ? 0 : second == 94 ? 1 : NONE;
            Due.due("98 below " + second, y.padding(2, 0, 2), want);
            Due.due("THICK is as it was", y.told(2, 1), 98);
        }
    }

    private static void stays() {
        for (State s : State.values()) {
            Edge.within(s, "stays", 0, 0, 100, 0);
        }
        Edge.tells(State.NEW, 0, "stays", 100);
        Edge.tells(State.SOME, 15, "stays", 0);
        Edge.tells(State.MOST, 16383, "stays", 0);
    }

    private static void bundle() {
        for (State s : State.values()) {
            Edge.within(s, "bundle", 0, 0, 9, 0, 3);
            Edge.within(s, "bundle", 1, 0, 100, 1, 0);
        }
        Edge.refused(State.SOME, BAD, "bundle", 10, 101);
    }

    /** "whether its LETTERS (if any) have no other ones between them". */
    private static void bundleOfNoneAndOfAll() {
        Edge.tells(State.NEW, 1, "bundle", 9, 100);
        RoadSorted x = of(50, 50, 50);
        Due.due("of all", x.bundle(0, 0), 1);
        Due.due("of none", x.bundle(9, 0), 1);
        x.set(1, 2, 9);
        Due.due("of one", x.bundle(9, 0), 1);
        Due.due("one between them", x.bundle(0, 0), 0);
        x.set(1, 2, 0);
        x.set(2, 2, 9);
        Due.due("the bottom one is another", x.bundle(0, 0), 1);
        x.halt();
        Due.due("the top one is another", x.bundle(0, 0), 1);
    }

    /** Promise 20: "n (0 .. 40)", what 0, 1. */
    private static void halts() {
        for (State s : State.values()) {
            Edge.within(s, "halts", 0, 0, 40, 0, 0);
            Edge.within(s, "halts", 1, 0, 1, 3, 0);
        }
        Edge.tells(State.NEW, 0, "halts", 40, 0);
        Edge.tells(State.NEW, 0, "halts", 40, 1);
        Edge.refused(State.SOME, BAD, "halts", 41, 2);
        for (int n = 0; n <= 40; n++) {
            RoadSorted x = of(90, 10);
            Due.due("halts(" + n + ", 1)", x.halts(n, 1), n == 0 ? 1 : 0);
            Due.due("halts(" + n + ", 0): of several the least", x.halts(n, 0), 0);
            RoadSorted y = of(14, 10);
            Due.due("halts(" + n + ", 1): a mess for good", y.halts(n, 1), 1);
            Due.due("halts(" + n + ", 0)", y.halts(n, 0), 0);
        }
        lastHalt();
    }

    /** "the number k 0 .. n": n itself too. 10 50 48, of which 50 rises by 10 once it has moved, and 10 by 19. */
    private static void lastHalt() {
        RoadSorted x = of(10, 50, 48);
        x.set(1, 2, 1);
        Due.text(x, "rise t - 49*d*(m>0) + 9*m");
        Due.due("halts(0, 0)", x.halts(0, 0), 0);
        Due.due("halts(0, 1): 48 50 10", x.halts(0, 1), 1);
        Due.due("halts(1, 0): behind the last", x.halts(1, 0), 1);
        Due.due("halts(1, 1): 48 19 10", x.halts(1, 1), 0);
    }

    /** Promise 21: BAD stands ahead of NOTHING. */
    private static void miles() {
        for (int v : new int[] {MIN, -1, 4, MAX}) {
            Edge.refused(State.SOME, BAD, "miles", v, 0);
            Edge.refused(State.NEW, BAD, "miles", v, 0);
        }
        for (int v : new int[] {MIN, -1, 2, MAX}) {
            Edge.refused(State.SOME, BAD, "miles", 0, v);
            Edge.refused(State.SOME, BAD, "miles", 3, v);
        }
        for (int sheet = 0; sheet < 4; sheet++) {
            Edge.refused(State.NEW, NOTHING, "miles", sheet, 0);
            for (State s : List.of(State.MOST, State.SOME)) {
                Edge.tells(s, s.made(true).call("miles", sheet, 0), "miles", sheet, 0);
                Edge.tells(s, s.made(true).call("miles", sheet, 1), "miles", sheet, 1);
            }
        }
        Edge.refused(State.SOME, NOTHING, "miles", 3, 0);
        Edge.tells(State.SOME, 0, "miles", 2, 0);
        Edge.tells(State.SOME, 0, "miles", 2, 1);
    }

    /** "places k that are numbers", "beyond the bag: 0", from one place to 24. */
    private static void milesByPlaces() {
        for (int places = 0; places <= 24; places++) {
            RoadSorted x = new RoadSorted();
            x.sheet(0, 0, places);
            x.sheet(1, 1, places);
            for (int k = 0; k < places; k++) {
                x.mark(0, k, -32768);
                x.mark(1, k, k % 2 == 0 ? 99999 : NONE);
            }
            Due.due(places + " places, no letters", x.miles(0, 1), 32768 * places);
            Due.due(places + " places, half of them no numbers", x.miles(1, 1), 99999 * ((places + 1) / 2));
            x.letter(0, 1, 9);
            x.letter(0, 1, 9);
            int within = Math.min(2, places);
            Due.due(places + " places, two letters", x.miles(0, 1), 32768 * places + 9 * within);
            Due.due(places + " places, two letters", x.miles(1, 1), 99999 * ((places + 1) / 2) - 9 * Math.min(1, places));
            Due.due("of several the least", x.miles(0, 0), 0);
        }
    }

    /** Promises 22, 23. */
    private static void feeAndFine() {
        Edge.tells(State.NEW, 0, "fee");
        for (State s : List.of(State.SOME, State.MOST, State.LAST)) {
            Edge.tells(s, s.made(true).call("fee"), "fee");
            for (int v : new int[] {MIN, -1, s.letters(), MAX}) {
                Edge.refused(s, BAD, "fine", v);
            }
            for (int v : new int[] {0, s.letters() - 1}) {
                Edge.tells(s, s.made(true).call("fine", v), "fine", v);
            }
        }
        Edge.tells(State.SOME, 297, "fine", 3);
        Edge.refused(State.NEW, BAD, "fine", 0);
    }

    /** "All that follows is only thought, ... without the bound of THE JOLT: nothing changes." */
    private static void beyondTheLastJolt() {
        State s = State.LAST;
        // Sorted they were 90 50 10, and a halt turned them: 10 50 90, at an odd jolt.
        Edge.tells(s, 0, "at", 0);
        Edge.tells(s, 2, "at", 1);
        Edge.tells(s, 1, "at", 2);
        Edge.tells(s, 3, "behind", 0, 0);
        Edge.tells(s, 2, "behind", 1, 0);
        Edge.tells(s, 1, "behind", 2, 0);
        Edge.tells(s, 0, "behind", 3, 0);
        Edge.tells(s, 1, "behind", 3, 2);
        Edge.tells(s, State.LAST.made(true).call("bag", 2) + 3, "behind", 100, 1);
        Edge.tells(s, 3, "rests");
        Edge.tells(s, 4, "stays", 100);
        Edge.tells(s, 7, "stays", 0);
        Edge.tells(s, 1, "stays", 1);
        Edge.tells(s, 1, "bundle", 1, 0);
        Edge.tells(s, 0, "bundle", 1, 1);
        Edge.tells(s, 2, "miles", 0, 0);
        Edge.tells(s, 0, "miles", 0, 1);
        Edge.tells(s, 0, "halts", 3, 0);
        Edge.tells(s, 0, "halts", 3, 1);
        Edge.tells(s, 0, "padding", 0, 2, 40);
        Edge.tells(s, 36, "padding", 0, 1, 3);
    }
}
