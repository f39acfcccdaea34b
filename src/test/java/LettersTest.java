/** Promises 1 to 12: a new object, letters. */
public final class LettersTest {
    private static final int BAD = RoadSorted.BAD, FULL = RoadSorted.FULL, KIND = RoadSorted.KIND;
    private static final int MIN = Integer.MIN_VALUE, MAX = Integer.MAX_VALUE;

    public static void main(String[] args) {
        newObject();
        letter();
        told();
        as();
        turns();
        set();
        puts();
        at();
        halt();
        bump();
        deal();
        seed();
        Due.end();
    }

    private static RoadSorted of(int... thick) {
        RoadSorted x = new RoadSorted();
        for (int t : thick) {
            x.letter(0, t, t % 10);
        }
        return x;
    }

    private static void order(String call, RoadSorted x, int... letters) {
        for (int p = 0; p < letters.length; p++) {
            Due.due(call + ": at(" + p + ")", x.at(p), letters[p]);
            Due.due(call + ": told(" + letters[p] + ", 3)", x.told(letters[p], 3), p);
        }
        Due.due(call + ": at(" + letters.length + ")", x.at(letters.length), BAD);
    }

    private static void newObject() {
        RoadSorted x = new RoadSorted();
        int[] counts = {0, 0, 0, 0, 0, 0, 0, 1};
        for (int what = 0; what < 8; what++) {
            Due.due("new: count(" + what + ")", x.count(what), counts[what]);
        }
        for (int what = 0; what < 5; what++) {
            Due.due("new: bag(" + what + ")", x.bag(what), 0);
        }
        Due.due("new: at(0)", x.at(0), BAD);
        Due.due("new: back()", x.back(), RoadSorted.NO);
        Due.due("new: why(0)", x.why(0), RoadSorted.NONE);
        for (int s = 0; s < 4; s++) {
            Due.due("new: reads", x.reads(s), RoadSorted.NOTHING);
        }
        for (int s = 0; s < 5; s++) {
            Due.due("new: rest", x.rest(s, 1), RoadSorted.NOTHING);
        }
        Due.due("new: fee()", x.fee(), 0);
        Due.due("new: count(0) of a second object", new RoadSorted().count(0), 0);
    }

    private static void letter() {
        RoadSorted x = new RoadSorted();
        Due.due("letter(-1, 1, 0)", x.letter(-1, 1, 0), BAD);
        Due.due("letter(6, 1, 0)", x.letter(6, 1, 0), BAD);
        Due.due("letter(0, 0, 0)", x.letter(0, 0, 0), BAD);
        Due.due("letter(0, 100, 0)", x.letter(0, 100, 0), BAD);
        Due.due("letter(0, 1, -1)", x.letter(0, 1, -1), BAD);
        Due.due("letter(0, 1, 10)", x.letter(0, 1, 10), BAD);
        Due.due("letter(MIN, MIN, MIN)", x.letter(MIN, MIN, MIN), BAD);
        Due.due("letter(0, MAX, 0)", x.letter(0, MAX, 0), BAD);
        Due.due("none came", x.count(0), 0);
        for (int i = 0; i < 14; i++) {
            Due.due("letter " + i, x.letter(i % 6, i == 0 ? 1 : 99, i % 10), i);
            Due.due("letter " + i + " is at the bottom", x.told(i, 3), i);
        }
        Due.due("letter 15", x.letter(0, 1, 0), FULL);
        Due.due("letter 15, bad: BAD stands first", x.letter(0, 0, 0), BAD);
        Due.due("count(0)", x.count(0), 14);
        RoadSorted y = of(10, 50);
        y.halt();
        Due.due("letter behind a halt", y.letter(0, 5, 5), 2);
        order("letter behind a halt", y, 1, 0, 2);
    }

    private static void told() {
        RoadSorted x = new RoadSorted();
        int[] thick = {3, 15, 50, 99};
        int[][] rises = {{3, 0, 0, 0, 0, 6}, {15, 0, 10, 0, 0, 30}, {50, 30, 45, 15, 0, 100}, {99, 79, 94, 39, 0, 198}};
        int[] grips = {2, 0, 10, 4, 20, 1};
        int[][] worth = {{3, 10, 96, 20, 90, 2}, {15, 22, 84, 44, 78, 2}, {50, 57, 49, 114, 43, 2}, {99, 106, 0, 212, -6, 2}};
        x.letter(0, 1, 7);
        for (int t = 0; t < 4; t++) {
            for (int kind = 0; kind < 6; kind++) {
                x.set(0, 1, thick[t]);
                x.turns(0, kind);
                String call = "kind " + kind + ", thick " + thick[t] + ": told(0, ";
                int[] want = {kind, thick[t], 7, 0, 0, rises[t][kind], grips[kind], worth[t][kind]};
                for (int what = 0; what < 8; what++) {
                    Due.due(call + what + ")", x.told(0, what), want[what]);
                }
            }
        }
        Due.due("told(0, 8)", x.told(0, 8), BAD);
        Due.due("told(0, -1)", x.told(0, -1), BAD);
        Due.due("told(1, 0)", x.told(1, 0), BAD);
        Due.due("told(-1, 0)", x.told(-1, 0), BAD);
        Due.due("told(MIN, 0)", x.told(MIN, 0), BAD);
        Due.due("told(MAX, 0)", x.told(MAX, 0), BAD);
        Due.due("told(0, 20) of BANK 22", bank(22), 1);
        RoadSorted y = of(10, 50, 20);
        y.jolts(1);
        y.jolts(1);
        Due.due("MOVED of 0", y.told(0, 4), 2);
        Due.due("MOVED of 1", y.told(1, 4), 1);
        Due.due("MOVED of 2", y.told(2, 4), 1);
        y.halt();
        y.puts(0, 2);
        Due.due("MOVED is of jolts alone", y.told(0, 4), 2);
    }

    private static int bank(int thick) {
        RoadSorted x = new RoadSorted();
        x.letter(3, thick, 0);
        return x.told(0, 5);
    }

    private static void as() {
        boolean[][] of = {
            {true, false, false, false, false, false}, {true, true, false, false, false, false},
            {true, false, true, false, false, false}, {true, true, false, true, false, false},
            {true, false, true, false, true, false}, {true, false, false, false, false, true}};
        RoadSorted x = new RoadSorted();
        for (int is = 0; is < 6; is++) {
            x.letter(is, 30 + is, 0);
            for (int kind = 0; kind < 6; kind++) {
                Due.due("as(" + is + ", " + kind + ")", x.as(is, kind), of[is][kind] ? 30 + is : KIND);
            }
        }
        Due.due("as(6, 0)", x.as(6, 0), BAD);
        Due.due("as(-1, 0)", x.as(-1, 0), BAD);
        Due.due("as(0, 6)", x.as(0, 6), BAD);
        Due.due("as(0, -1)", x.as(0, -1), BAD);
    }

    private static void turns() {
        RoadSorted x = of(40, 50);
        for (int kind = 0; kind < 6; kind++) {
            Due.due("turns(1, " + kind + ")", x.turns(1, kind), Math.max(0, kind - 1));
            Due.due("told(1, 0)", x.told(1, 0), kind);
        }
        Due.due("turns(1, 6)", x.turns(1, 6), BAD);
        Due.due("turns(1, -1)", x.turns(1, -1), BAD);
        Due.due("turns(2, 0)", x.turns(2, 0), BAD);
        Due.due("turns(-1, 0)", x.turns(-1, 0), BAD);
        Due.due("told(1, 0)", x.told(1, 0), 5);
        Due.due("told(0, 0)", x.told(0, 0), 0);
        Due.due("told(1, 1)", x.told(1, 1), 50);
        Due.due("mess: twice 50 below 40", x.bag(0), 1);
        x.turns(1, 4);
        Due.due("mess: 0 below 40", x.bag(0), 0);
    }

    private static void set() {
        RoadSorted x = of(40, 50);
        Due.due("set(0, 1, 99)", x.set(0, 1, 99), 40);
        Due.due("set(0, 1, 1)", x.set(0, 1, 1), 99);
        Due.due("set(0, 2, 9)", x.set(0, 2, 9), 0);
        Due.due("set(0, 2, 0)", x.set(0, 2, 0), 9);
        Due.due("set(0, 2, 4)", x.set(0, 2, 4), 0);
        Due.due("set(0, 1, 0)", x.set(0, 1, 0), BAD);
        Due.due("set(0, 1, 100)", x.set(0, 1, 100), BAD);
        Due.due("set(0, 2, -1)", x.set(0, 2, -1), BAD);
        Due.due("set(0, 2, 10)", x.set(0, 2, 10), BAD);
        Due.due("set(0, 0, 1)", x.set(0, 0, 1), BAD);
        Due.due("set(0, 3, 1)", x.set(0, 3, 1), BAD);
        Due.due("set(2, 1, 1)", x.set(2, 1, 1), BAD);
        Due.due("set(-1, 1, 1)", x.set(-1, 1, 1), BAD);
        Due.due("THICK", x.told(0, 1), 1);
        Due.due("RISES", x.told(0, 5), 1);
        Due.due("TOWN", x.told(0, 2), 4);
        Due.due("the other's THICK", x.told(1, 1), 50);
    }

    private static void puts() {
        RoadSorted x = of(10, 20, 30, 40);
        Due.due("puts(0, 3)", x.puts(0, 3), 0);
        order("puts(0, 3)", x, 1, 2, 3, 0);
        Due.due("puts(3, 0)", x.puts(3, 0), 2);
        order("puts(3, 0)", x, 3, 1, 2, 0);
        Due.due("puts(1, 2)", x.puts(1, 2), 1);
        order("puts(1, 2)", x, 3, 2, 1, 0);
        Due.due("puts(1, 2) again", x.puts(1, 2), 2);
        order("puts(1, 2) again", x, 3, 2, 1, 0);
        Due.due("puts(0, 1)", x.puts(0, 1), 3);
        order("puts(0, 1)", x, 3, 0, 2, 1);
        Due.due("puts(0, 4)", x.puts(0, 4), BAD);
        Due.due("puts(0, -1)", x.puts(0, -1), BAD);
        Due.due("puts(4, 0)", x.puts(4, 0), BAD);
        Due.due("puts(-1, 0)", x.puts(-1, 0), BAD);
        order("bad puts", x, 3, 0, 2, 1);
        Due.due("CHANGES are as they were", x.bag(2), 0);
        RoadSorted most = new RoadSorted();
        most.deal(14);
        Due.due("puts(0, 13) of 14", most.puts(0, 13), 0);
        order("puts(0, 13) of 14", most, 1, 2, 3, 4, 5, 6, 7, 8, 9, 10, 11, 12, 13, 0);
        Due.due("puts(0, 0) of 14", most.puts(0, 0), 13);
        order("puts(0, 0) of 14", most, 0, 1, 2, 3, 4, 5, 6, 7, 8, 9, 10, 11, 12, 13);
    }

    private static void at() {
        RoadSorted x = of(10, 20, 30);
        order("at", x, 0, 1, 2);
        Due.due("at(-1)", x.at(-1), BAD);
        Due.due("at(3)", x.at(3), BAD);
        Due.due("at(MIN)", x.at(MIN), BAD);
        Due.due("at(MAX)", x.at(MAX), BAD);
    }

    private static void halt() {
        Due.due("halt() without letters", new RoadSorted().halt(), 0);
        RoadSorted x = of(10, 20, 30, 40);
        Due.due("halt() of four", x.halt(), 4);
        order("halt() of four", x, 3, 2, 1, 0);
        x.letter(0, 50, 0);
        Due.due("halt() of five", x.halt(), 5);
        order("halt() of five", x, 4, 0, 1, 2, 3);
        Due.due("THE JOLT is as it was", x.count(1), 0);
        Due.due("z is as it was", x.count(7), 1);
        Due.due("CHANGES are as they were", x.bag(2), 0);
    }

    private static void bump() {
        RoadSorted x = new RoadSorted();
        Due.due("bump(100)", x.bump(100), 0);
        Due.due("bump(1)", x.bump(1), 100);
        Due.due("bump(101)", x.bump(101), BAD);
        Due.due("bump(-1)", x.bump(-1), BAD);
        Due.due("count(2)", x.count(2), 1);
        Due.due("bump(0)", x.bump(0), 1);
        Due.due("count(2)", x.count(2), 0);
    }

    private static int drawn(int z) {
        return z * 1103515245 + 12345;
    }

    private static void deal() {
        RoadSorted x = new RoadSorted();
        Due.due("deal(0)", x.deal(0), BAD);
        Due.due("deal(15)", x.deal(15), BAD);
        Due.due("deal(-1)", x.deal(-1), BAD);
        x.seed(-77);
        Due.due("deal(1)", x.deal(1), 1);
        Due.due("deal(9)", x.deal(9), 9);
        int z = -77;
        for (int i = 0; i < 10; i++) {
            z = drawn(z);
            Due.due("KIND of " + i, x.told(i, 0), (z >>> 8) % 6);
            z = drawn(z);
            Due.due("THICK of " + i, x.told(i, 1), 1 + (z >>> 8) % 99);
            z = drawn(z);
            Due.due("TOWN of " + i, x.told(i, 2), (z >>> 8) % 10);
            Due.due("PLACE of " + i, x.told(i, 3), i);
        }
        Due.due("z", x.count(7), z);
        Due.due("deal(14)", x.deal(14), 4);
        for (int i = 0; i < 12; i++) {
            z = drawn(z);
        }
        Due.due("z: no draws for others", x.count(7), z);
        Due.due("deal(1) without room", x.deal(1), 0);
        Due.due("z: no draws at all", x.count(7), z);
    }

    private static void seed() {
        RoadSorted x = new RoadSorted();
        Due.due("seed(MIN)", x.seed(MIN), 1);
        Due.due("count(7)", x.count(7), MIN);
        Due.due("seed(RoadSorted.BAD)", x.seed(BAD), MIN);
        Due.due("seed(0)", x.seed(0), BAD);
        Due.due("count(7)", x.count(7), 0);
    }
}
