/** Promises 13 to 20 and 22, 23: jolts, what will be. */
public final class JoltsTest {
    private static final int BAD = RoadSorted.BAD, NONE = RoadSorted.NONE;

    public static void main(String[] args) {
        climbs();
        jolts();
        bumps();
        lastJolt();
        bag();
        behind();
        behindWithBumps();
        beyondTheLastJolt();
        rests();
        padding();
        stays();
        bundle();
        halts();
        feeAndFine();
        onlyThought();
        Due.end();
    }

    /** Letters of kind 0: by twos THICK, TOWN. */
    private static RoadSorted of(int... thickAndTown) {
        RoadSorted x = new RoadSorted();
        for (int i = 0; i < thickAndTown.length; i += 2) {
            x.letter(0, thickAndTown[i], thickAndTown[i + 1]);
        }
        return x;
    }

    private static void order(String call, RoadSorted x, int... letters) {
        for (int p = 0; p < letters.length; p++) {
            Due.due(call + ": at(" + p + ")", x.at(p), letters[p]);
        }
    }

    private static void climbs() {
        // upper KIND, THICK; lower KIND, the least THICK with which it climbs
        int[][] least = {{0, 10, 0, 15}, {1, 30, 0, 13}, {1, 30, 1, 31}, {2, 15, 0, 23}, {0, 10, 2, 28}, {4, 50, 0, 23},
            {0, 3, 5, 4}, {5, 10, 0, 24}, {3, 40, 0, 17}, {0, 10, 3, 54}, {2, 9, 5, 8}};
        for (int[] c : least) {
            RoadSorted x = new RoadSorted();
            x.letter(c[0], c[1], 0);
            x.letter(c[2], c[3] - 1, 0);
            String call = c[1] + " of " + c[0] + " above " + c[3] + " of " + c[2];
            Due.due(call + ", one less: bag(3)", x.bag(3), 0);
            Due.due(call + ", one less: jolts(2)", x.jolts(2), 0);
            x.set(1, 1, c[3]);
            Due.due(call + ": bag(3)", x.bag(3), 1);
            Due.due(call + ": jolts(1)", x.jolts(1), 1);
            order(call, x, 1, 0);
        }
    }

    private static void jolts() {
        RoadSorted x = of(10, 0, 20, 0, 30, 0, 40, 0, 50, 0);
        Due.due("jolts(0)", x.jolts(0), BAD);
        Due.due("jolts(101)", x.jolts(101), BAD);
        Due.due("jolts(-1)", x.jolts(-1), BAD);
        Due.due("THE JOLT", x.count(1), 0);
        Due.due("z", x.count(7), 1);
        Due.due("jolts(1)", x.jolts(1), 2);
        order("jolt 0", x, 1, 0, 3, 2, 4);
        Due.due("z: one draw a jolt", x.count(7), 1103527590);
        Due.due("jolts(1)", x.jolts(1), 2);
        order("jolt 1", x, 1, 3, 0, 4, 2);
        Due.due("jolts(1)", x.jolts(1), 2);
        order("jolt 2", x, 3, 1, 4, 0, 2);
        int[] moved = {3, 2, 2, 3, 2};
        for (int i = 0; i < 5; i++) {
            Due.due("MOVED of " + i, x.told(i, 4), moved[i]);
        }
        Due.due("jolts(100)", x.jolts(100), 4);
        order("sorted", x, 4, 3, 2, 1, 0);
        Due.due("bag(2)", x.bag(2), 10);
        Due.due("THE JOLT", x.count(1), 103);
        Due.due("MOVED of 4", x.told(4, 4), 4);
        RoadSorted y = of(10, 0, 20, 0);
        y.jolts(1);
        y.halt();
        Due.due("at an odd jolt 0 and 1 are no two", y.jolts(1), 0);
        Due.due("at an even one they are", y.jolts(1), 1);
        RoadSorted one = of(5, 5);
        one.jolts(1);
        Due.due("z: a draw for one letter", one.count(7), 1103527590);
        RoadSorted none = new RoadSorted();
        Due.due("jolts(3) without letters", none.jolts(3), 0);
        Due.due("THE JOLT", none.count(1), 3);
        Due.due("z: no draws without letters", none.count(7), 1);
    }

    private static void bumps() {
        for (int bump = 0; bump <= 100; bump += 20) {
            RoadSorted x = of(50, 0, 50, 1, 50, 2, 50, 3, 50, 4);
            x.bump(bump);
            x.seed(12345 + bump);
            java.util.List<Integer> bag = new java.util.ArrayList<>(java.util.List.of(0, 1, 2, 3, 4));
            int z = 12345 + bump;
            for (int j = 0; j < 30; j++) {
                z = z * 1103515245 + 12345;
                if ((z >>> 8) % 100 < bump) {
                    z = z * 1103515245 + 12345;
                    bag.add(0, bag.remove((z >>> 8) % 5));
                }
                Due.due("bump " + bump + ": jolts(1)", x.jolts(1), 0);
                Due.due("bump " + bump + ": z", x.count(7), z);
                for (int p = 0; p < 5; p++) {
                    Due.due("bump " + bump + ": at", x.at(p), bag.get(p));
                }
            }
            Due.due("bumps leave CHANGES", x.bag(2), 0);
            Due.due("bumps leave MOVED", x.told(3, 4), 0);
        }
    }

    private static void lastJolt() {
        RoadSorted x = of(20, 0, 20, 0);
        int z = 1;
        for (int i = 0; i < 99; i++) {
            x.jolts(100);
        }
        for (int i = 0; i < 9999; i++) {
            z = z * 1103515245 + 12345;
        }
        Due.due("THE JOLT", x.count(1), 9900);
        Due.due("jolts(100)", x.jolts(100), 0);
        Due.due("THE JOLT at most", x.count(1), 9999);
        Due.due("z", x.count(7), z);
        Due.due("jolts(1)", x.jolts(1), 0);
        Due.due("jolts(101)", x.jolts(101), BAD);
        Due.due("z", x.count(7), z);
        Due.due("THE JOLT at most", x.count(1), 9999);
    }

    private static void bag() {
        RoadSorted x = of(30, 1, 30, 1, 20, 2, 40, 1, 33, 3, 99, 3);
        int[] want = {11, 4, 0, 2, 252};
        for (int what = 0; what < 5; what++) {
            Due.due("bag(" + what + ")", x.bag(what), want[what]);
        }
        Due.due("bag(5)", x.bag(5), BAD);
        Due.due("bag(-1)", x.bag(-1), BAD);
        x.set(3, 1, 24);
        Due.due("bag(3): 24 below 20 is held by the grip, 33 below 24 is not", x.bag(3), 2);
        x.set(3, 1, 25);
        Due.due("bag(3): 25 below 20 climbs", x.bag(3), 3);
        RoadSorted one = of(5, 5);
        int[] ofOne = {0, 1, 0, 0, 5};
        for (int what = 0; what < 5; what++) {
            Due.due("of one: bag(" + what + ")", one.bag(what), ofOne[what]);
        }
    }

    private static void behind() {
        RoadSorted x = of(10, 0, 20, 0, 30, 0, 40, 0, 50, 0);
        x.jolts(1);
        int[][] order = {{1, 0, 3, 2, 4}, {1, 3, 0, 4, 2}, {3, 1, 4, 0, 2}, {3, 4, 1, 2, 0}, {4, 3, 2, 1, 0}};
        int[] mess = {8, 6, 4, 2, 0};
        int[] changes = {2, 4, 6, 8, 10};
        for (int n = 0; n < 5; n++) {
            Due.due("behind(" + n + ", 0)", x.behind(n, 0), mess[n]);
            Due.due("behind(" + n + ", 1)", x.behind(n, 1), changes[n]);
            for (int p = 0; p < 5; p++) {
                Due.due("behind(" + n + ", 2 and " + p + ")", x.behind(n, 2 + p), order[n][p]);
            }
        }
        Due.due("behind(100, 1)", x.behind(100, 1), 10);
        Due.due("behind(101, 1)", x.behind(101, 1), BAD);
        Due.due("behind(-1, 1)", x.behind(-1, 1), BAD);
        Due.due("behind(0, -1)", x.behind(0, -1), BAD);
        Due.due("behind(0, 7)", x.behind(0, 7), BAD);
        Due.due("behind(0, MAX)", x.behind(0, Integer.MAX_VALUE), BAD);
        Due.due("behind(0, MIN)", x.behind(0, Integer.MIN_VALUE), BAD);
        Due.due("behind(0, 2) without letters", new RoadSorted().behind(0, 2), BAD);
        Due.due("behind(9, 1) without letters", new RoadSorted().behind(9, 1), 0);
    }

    private static void behindWithBumps() {
        RoadSorted x = of(50, 0, 50, 0, 50, 0, 50, 0, 50, 0, 50, 0, 50, 0);
        x.bump(50);
        x.seed(99);
        int[] top = new int[20];
        for (int n = 0; n < 20; n++) {
            top[n] = x.behind(n, 2);
        }
        Due.due("z as it is", x.count(7), 99);
        for (int n = 0; n < 20; n++) {
            Due.due("what was thought comes", x.at(0), top[n]);
            x.jolts(1);
        }
    }

    private static void beyondTheLastJolt() {
        RoadSorted x = of(10, 0, 90, 0);
        for (int i = 0; i < 100; i++) {
            x.jolts(100);
        }
        x.puts(0, 0);
        Due.due("THE JOLT", x.count(1), 9999);
        Due.due("jolts(5)", x.jolts(5), 0);
        Due.due("behind(1, 2): an odd one", x.behind(1, 2), 0);
        Due.due("behind(2, 2): without the bound", x.behind(2, 2), 1);
        Due.due("rests(): without the bound", x.rests(), 2);
    }

    private static void rests() {
        Due.due("rests() without letters", new RoadSorted().rests(), 0);
        RoadSorted x = of(10, 0, 20, 0, 30, 0, 40, 0, 50, 0);
        Due.due("rests()", x.rests(), 5);
        Due.due("THE JOLT", x.count(1), 0);
        x.jolts(4);
        Due.due("rests()", x.rests(), 1);
        x.jolts(1);
        Due.due("rests()", x.rests(), 0);
        RoadSorted y = of(10, 0, 20, 0);
        y.jolts(1);
        y.halt();
        Due.due("a jolt that changes nothing is no rest", y.rests(), 2);
        // The one of town 9 is far heavier than the other one whenever both have moved by an odd number.
        RoadSorted never = of(10, 0, 20, 0);
        Due.text(never, "rise 100 * (m - m/2*2) * (d + 1) + t");
        never.set(0, 2, 9);
        never.set(1, 2, 0);
        Due.due("rests(): never", never.rests(), NONE);
        Due.holds("it goes on changing", never.behind(100, 1) > 10);
        restsLate();
    }

    /**
     * Two that change places by turns, at every second jolt, until both have moved so often as the bound tells:
     * with the first change at once they rest behind 2 * bound - 1 jolts, else one later.
     */
    private static void restsLate() {
        for (int bound = 148; bound <= 152; bound++) {
            for (int odd = 0; odd < 2; odd++) {
                RoadSorted x = new RoadSorted();
                if (odd == 1) {
                    x.jolts(1);
                }
                x.letter(0, 10, 1);
                x.letter(0, 20, 0);
                Due.text(x, "rise (m<" + bound + ")*(m-m/2*2=0)*(1-d)*50 + (m<" + bound + ")*(m-m/2*2)*d*50");
                int behind = 2 * bound - 1 + odd;
                Due.due("rests() behind " + behind, x.rests(), behind <= 300 ? behind : NONE);
            }
        }
    }

    private static void padding() {
        RoadSorted x = of(10, 0, 50, 0, 30, 0);
        Due.due("padding(0, 1, 0)", x.padding(0, 1, 0), 0);
        Due.due("padding(0, 2, 0)", x.padding(0, 2, 0), NONE);
        // Behind 3 jolts the bag is 1, 2, 0; beside 1 it is from 26 on (30 does not climb past it then).
        Due.due("padding(0, 1, 3)", x.padding(0, 1, 3), 16);
        Due.due("padding(0, 2, 3)", x.padding(0, 2, 3), 0);
        Due.due("padding(0, 1, 40)", x.padding(0, 1, 40), 16);
        Due.due("padding(2, 0, 40)", x.padding(2, 0, 40), 0);
        Due.due("padding(0, 1, 41)", x.padding(0, 1, 41), BAD);
        Due.due("padding(0, 1, -1)", x.padding(0, 1, -1), BAD);
        Due.due("padding(0, 0, 1)", x.padding(0, 0, 1), BAD);
        Due.due("padding(3, 0, 1)", x.padding(3, 0, 1), BAD);
        Due.due("padding(0, 3, 1)", x.padding(0, 3, 1), BAD);
        Due.due("padding(-1, 0, 1)", x.padding(-1, 0, 1), BAD);
        Due.due("padding(0, -1, 1)", x.padding(0, -1, 1), BAD);
        Due.due("THICK", x.told(0, 1), 10);
        Due.due("RISES", x.told(0, 5), 10);
        Due.due("padding to the most", edge(94), 98);
        Due.due("padding beyond the most", edge(95), NONE);
    }

    /** A letter of 1 at the bottom of three comes beside the top one only if it climbs past the middle one. */
    private static int edge(int middle) {
        RoadSorted x = of(99, 0, middle, 0, 1, 0);
        return x.padding(2, 0, 2);
    }

    private static void stays() {
        RoadSorted x = of(90, 0, 10, 0, 50, 0, 20, 0);
        Due.due("stays(0)", x.stays(0), 15);
        Due.due("stays(1)", x.stays(1), 15);
        Due.due("stays(2)", x.stays(2), 9);
        Due.due("stays(100)", x.stays(100), 1);
        Due.due("stays(101)", x.stays(101), BAD);
        Due.due("stays(-1)", x.stays(-1), BAD);
        x.halt();
        Due.due("stays(0) behind a halt", x.stays(0), 15);
        Due.due("stays(100) behind a halt: bits are letters", x.stays(100), 4);
        RoadSorted y = of(10, 0, 90, 0);
        y.letter(0, 5, 0);
        y.halt();
        y.puts(2, 2);
        Due.due("stays(1)", y.stays(1), 7);
        for (int i = 3; i < 14; i++) {
            y.letter(4, 1, 0);
        }
        Due.due("stays(0) of 14", y.stays(0), 16383);
    }

    private static void bundle() {
        RoadSorted x = of(10, 1, 50, 2, 30, 1, 20, 3);
        Due.due("bundle(1, 0)", x.bundle(1, 0), 0);
        Due.due("bundle(1, 1)", x.bundle(1, 1), 1);
        Due.due("bundle(1, 2)", x.bundle(1, 2), 1);
        Due.due("bundle(1, 100): 1 2 3 0", x.bundle(1, 100), 0);
        Due.due("bundle(2, 5)", x.bundle(2, 5), 1);
        Due.due("bundle(9, 5)", x.bundle(9, 5), 1);
        Due.due("bundle(0, 0)", x.bundle(0, 0), 1);
        Due.due("bundle(10, 0)", x.bundle(10, 0), BAD);
        Due.due("bundle(-1, 0)", x.bundle(-1, 0), BAD);
        Due.due("bundle(0, 101)", x.bundle(0, 101), BAD);
        Due.due("bundle(0, -1)", x.bundle(0, -1), BAD);
        Due.due("bundle(0, 100)", x.bundle(0, 100), 1);
    }

    private static void halts() {
        RoadSorted x = of(10, 0, 20, 0, 30, 0, 40, 0, 50, 0);
        Due.due("halts(0, 0)", x.halts(0, 0), 0);
        Due.due("halts(0, 1)", x.halts(0, 1), 0);
        x.halt();
        Due.due("halts(0, 1) of a sorted one", x.halts(0, 1), 10);
        Due.due("halts(1, 0): both leave 8 or 10", x.halts(1, 0), 0);
        Due.due("halts(1, 1)", x.halts(1, 1), 8);
        Due.due("halts(40, 0)", x.halts(40, 0), 0);
        Due.due("halts(40, 1)", x.halts(40, 1), 0);
        Due.due("halts(41, 0)", x.halts(41, 0), BAD);
        Due.due("halts(-1, 0)", x.halts(-1, 0), BAD);
        Due.due("halts(0, 2)", x.halts(0, 2), BAD);
        Due.due("halts(0, -1)", x.halts(0, -1), BAD);
        Due.due("the bag was not turned", x.at(0), 4);
        // 14, 10: no jolt changes them; turned over they are a mess for good, at any k.
        RoadSorted y = of(14, 0, 10, 0);
        Due.due("halts(5, 0)", y.halts(5, 0), 0);
        Due.due("halts(5, 1)", y.halts(5, 1), 1);
        // At an odd jolt two letters don't change: a halt behind the first one comes too late, one ahead of it not.
        RoadSorted z = of(10, 0, 90, 0);
        z.jolts(1);
        Due.due("halts(1, 1)", z.halts(1, 1), 1);
        Due.due("halts(2, 1)", z.halts(2, 1), 0);
        Due.due("halts(2, 0)", z.halts(2, 0), 0);
        // 10 50 48; town 1 loses 49 once it has moved. k = 0: 48 50 10 stays: mess 1.
        // k = 1: 50 climbs past 10, and both have moved: 10 (town 1) 19 48, turned over: mess 0.
        RoadSorted w = of(10, 0, 50, 1, 48, 0);
        Due.text(w, "rise t - 49*d*(m>0) + 9*m");
        Due.due("halts(1, 0): best behind the jolt", w.halts(1, 0), 1);
        Due.due("halts(1, 1)", w.halts(1, 1), 0);
        // 90 10 12 at an odd jolt. k = 0: 12 10 90, then 12 90 10: mess 1. k = 1: 12 10 90: mess 2.
        RoadSorted v = of(90, 0, 10, 0, 12, 0);
        v.jolts(1);
        Due.due("halts(1, 0)", v.halts(1, 0), 0);
        Due.due("halts(1, 1)", v.halts(1, 1), 1);
    }

    private static void feeAndFine() {
        RoadSorted x = of(10, 0, 20, 0, 30, 0);
        Due.due("fee() without a text: MESS", x.fee(), 3);
        Due.due("fine(2) without a text: PLACE", x.fine(2), 2);
        x.jolts(3);
        Due.due("fee() of a sorted one", x.fee(), 0);
        Due.due("fine(2) of a sorted one", x.fine(2), 0);
        Due.due("fine(3)", x.fine(3), BAD);
        Due.due("fine(-1)", x.fine(-1), BAD);
        x.halt();
        Due.text(x, "fee 100*m+j");
        Due.due("fee()", x.fee(), 303);
        Due.text(x, "fine 100*t+p");
        Due.due("fine(0)", x.fine(0), 1000);
        Due.due("fine(2)", x.fine(2), 3002);
        Due.due("fine(3)", x.fine(3), BAD);
        Due.text(x, "fee 0-m");
        Due.due("fee() is not held", x.fee(), -3);
        Due.text(x, "fine 9999*t");
        Due.due("fine() is not held", x.fine(1), 199980);
    }

    private static void onlyThought() {
        RoadSorted x = new RoadSorted();
        x.seed(4711);
        x.deal(14);
        x.bump(30);
        x.jolts(3);
        x.sheet(0, 1, 24);
        int[] before = state(x);
        x.behind(100, 0);
        x.rests();
        x.padding(0, 13, 40);
        x.stays(100);
        x.bundle(3, 100);
        x.halts(40, 0);
        x.miles(0, 0);
        x.fee();
        x.fine(3);
        int[] behind = state(x);
        for (int i = 0; i < before.length; i++) {
            Due.due("state " + i + " behind thoughts", behind[i], before[i]);
        }
    }

    private static int[] state(RoadSorted x) {
        int[] state = new int[8 + 5 + 14 * 8];
        for (int what = 0; what < 8; what++) {
            state[what] = x.count(what);
        }
        for (int what = 0; what < 5; what++) {
            state[8 + what] = x.bag(what);
        }
        for (int i = 0; i < 14 * 8; i++) {
            state[13 + i] = x.told(i / 8, i % 8);
        }
        return state;
    }
}
