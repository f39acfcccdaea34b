/** Each sentence of promises 38 to 42, and of term 5's images, that names a bound: within it, beyond it, and what a refused call leaves. */
public final class EdgesOfRowsTest {
    private static final int BAD = RoadSorted.BAD, NO = RoadSorted.NO, FULL = RoadSorted.FULL;
    private static final int MIN = Integer.MIN_VALUE, MAX = Integer.MAX_VALUE;

    public static void main(String[] args) {
        tell();
        tellUpToTheMost();
        check();
        checkByNumbers();
        checkOfMost();
        checkUpToTheLastJolt();
        keep();
        keepOfAll();
        back();
        backAgainAndAgain();
        count();
        countTowns();
        Due.end();
    }

    private static void tellAll(RoadSorted x, int... numbers) {
        for (int v : numbers) {
            x.tell(v);
        }
    }

    /** Promise 38: it takes every int. */
    private static void tell() {
        for (int v : new int[] {MIN, -1, 0, BAD, MAX}) {
            Edge.does(State.NEW, 1, "tell", v);
            Edge.does(State.SOME, 5, "tell", v);
            Edge.refused(State.MOST, FULL, "tell", v);
        }
    }

    /** "FULL: 60 wait". */
    private static void tellUpToTheMost() {
        RoadSorted x = new RoadSorted();
        for (int i = 1; i <= 59; i++) {
            Due.due("tell " + i, x.tell(i), i);
        }
        Due.due("the 60th", x.tell(0), 60);
        Due.due("the 61st", x.tell(0), FULL);
        Due.due("count(5)", x.count(5), 60);
        x.check(0);
        Due.due("behind a check there is room", x.tell(0), 1);
    }

    /** Promise 39: "n (1 .. 30)", "BAD; NO: there is no IMAGE", "none do then, whatever is answered". */
    private static void check() {
        for (int n : new int[] {MIN, -1, 0, 31, MAX}) {
            Edge.refusedBut(State.NEW, BAD, "check", n);
            Edge.refusedBut(State.SOME, BAD, "check", n);
            Edge.refusedBut(State.MOST, BAD, "check", n);
        }
        Edge.refusedBut(State.NEW, NO, "check", 1);
        Edge.refusedBut(State.NEW, NO, "check", 30);
        Edge.refusedBut(State.SOME, 3, "check", 1);
        Edge.refusedBut(State.SOME, 0, "check", 2);
        Edge.refusedBut(State.SOME, 5, "check", 3);
        Edge.refusedBut(State.SOME, 5, "check", 30);
        Edge.refusedBut(State.MOST, 0, "check", 30);
        Edge.refusedBut(State.MOST, 59, "check", 29);
        Edge.refusedBut(State.MOST, 3, "check", 1);
        for (int n : new int[] {0, 1, 2, 30, 31}) {
            Calls x = State.SOME.made(false);
            x.call("check", n);
            Due.due("none wait behind check(" + n + ")", x.call("count", 5), 0);
        }
        RoadSorted none = new RoadSorted();
        tellAll(none, 0, 0);
        Due.due("check without an image", none.check(1), NO);
        Due.due("none wait then", none.count(5), 0);
    }

    /** "1 and how many stand right ahead of the first that is not (or is missing, or one too many)". */
    private static void checkByNumbers() {
        for (int n = 1; n <= 3; n++) {
            for (int told = 0; told <= 8; told++) {
                for (int wrong = 0; wrong <= told; wrong++) {
                    RoadSorted x = new RoadSorted();
                    x.letter(0, 44, 0);
                    x.keep();
                    for (int i = 0; i < told; i++) {
                        x.tell((i % 2 == 0 ? 44 : 0) + (i == wrong ? 1 : 0));
                    }
                    int first = Math.min(wrong, 2 * n);
                    boolean right = wrong == told && told == 2 * n;
                    Due.due("check(" + n + ") of " + told + " numbers, wrong at " + wrong, x.check(n), right ? 0 : 1 + first);
                }
            }
        }
    }

    /** 60 numbers, each of them wrong by one. */
    private static void checkOfMost() {
        for (int wrong = 0; wrong <= 60; wrong++) {
            RoadSorted x = new RoadSorted();
            x.letter(0, 44, 0);
            x.keep();
            for (int i = 0; i < 60; i++) {
                x.tell((i % 2 == 0 ? 44 : 0) - (i == wrong ? 1 : 0));
            }
            Due.due("check(30), wrong at " + wrong, x.check(30), wrong == 60 ? 0 : 1 + wrong);
        }
    }

    /** "fewer, if THE JOLT would be above 9999", by THE IMAGE; "THICK of the one on top (0: none)". */
    private static void checkUpToTheLastJolt() {
        for (int left = 0; left <= 3; left++) {
            RoadSorted x = new RoadSorted();
            for (int i = 0; i < 99; i++) {
                x.jolts(100);
            }
            x.jolts(99 - left);
            Due.due("THE JOLT", x.count(1), 9999 - left);
            x.keep();
            for (int n = 1; n <= 5; n++) {
                int due = 2 * Math.min(n, left);
                for (int told = 0; told <= 2 * n + 1; told++) {
                    tellAll(x, new int[told]);
                    int want = told == due ? 0 : 1 + Math.min(told, due);
                    Due.due(left + " left: check(" + n + ") of " + told, x.check(n), want);
                }
            }
        }
        Edge.tells(State.LAST, 0, "check", 1);
        Edge.tells(State.LAST, 0, "check", 30);
        Edge.refused(State.LAST, BAD, "check", 31);
    }

    /** Promise 40, of none up to 14. */
    private static void keep() {
        Edge.does(State.NEW, 0, "keep");
        Edge.does(State.SOME, 4, "keep");
        Edge.does(State.MOST, 14, "keep");
        Edge.does(State.LAST, 3, "keep");
    }

    /** "AN IMAGE keeps all but SHEETS, SLOTS, numbers that wait, THE TAPE", and a later act leaves it. */
    private static void keepOfAll() {
        String[] names = {"turns", "set", "set", "puts", "halt", "bump", "seed", "jolts", "letter", "deal", "pour", "text"};
        int[][] numbers = {{0, 4}, {0, 1, 98}, {0, 2, 7}, {0, 3}, {}, {99}, {123}, {50}, {0, 5, 5}, {9}, {1}, {}};
        for (int i = 0; i < names.length; i++) {
            Calls kept = State.SOME.made(false);
            kept.call("keep");
            Calls later = State.SOME.made(false);
            later.call("keep");
            later.call(names[i], numbers[i]);
            later.call("back");
            for (int what = 0; what < 8; what++) {
                int tapeOrNumbers = names[i].equals("text") && what == 6 ? 0 : kept.call("count", what);
                Due.due(names[i] + ", back: count(" + what + ")", later.call("count", what), tapeOrNumbers);
            }
            for (int what = 0; what < 5; what++) {
                Due.due(names[i] + ", back: bag(" + what + ")", later.call("bag", what), kept.call("bag", what));
            }
            for (int letter = 0; letter < 5; letter++) {
                for (int what = 0; what < 8; what++) {
                    Due.due(names[i] + ", back: told", later.call("told", letter, what), kept.call("told", letter, what));
                }
            }
            Due.due(names[i] + ", back: fee()", later.call("fee"), kept.call("fee"));
            Due.due(names[i] + ", back: jolts", later.call("jolts", 40), kept.call("jolts", 40));
        }
    }

    /** Promise 41: "NO: there is none". */
    private static void back() {
        Edge.refused(State.NEW, NO, "back");
        Edge.does(State.SOME, 3, "back");
        Edge.does(State.MOST, 14, "back");
        Edge.tells(State.LAST, 3, "back");
        RoadSorted none = new RoadSorted();
        none.keep();
        none.deal(14);
        Due.due("back to no letters", none.back(), 0);
        Due.due("count(0)", none.count(0), 0);
        Due.due("at(0)", none.at(0), BAD);
        Due.due("z", none.count(7), 1);
    }

    /** "all can become as it is (again and again)"; a newer IMAGE takes its place. */
    private static void backAgainAndAgain() {
        RoadSorted x = new RoadSorted();
        for (int letters = 0; letters <= 14; letters++) {
            Due.due("keep()", x.keep(), letters);
            for (int again = 0; again < 3; again++) {
                x.deal(14);
                x.jolts(5);
                Due.due("back()", x.back(), letters);
                Due.due("count(0)", x.count(0), letters);
                Due.due("THE JOLT", x.count(1), 0);
            }
            x.letter(0, 10, 0);
        }
    }

    private static void count() {
        for (State s : State.values()) {
            for (int v : new int[] {MIN, -1, 8, MAX}) {
                Edge.refused(s, BAD, "count", v);
            }
        }
        int[] some = {4, 5, 30, 3, 3, 4, 12};
        int[] most = {14, 3, 100, State.MOST.made(true).call("count", 3), 14, 60, 96};
        int[] last = {3, 9999, 0, 2, 0, 0, 0};
        for (int what = 0; what < 7; what++) {
            Edge.tells(State.SOME, some[what], "count", what);
            Edge.tells(State.MOST, most[what], "count", what);
            Edge.tells(State.LAST, last[what], "count", what);
        }
        Edge.tells(State.NEW, 1, "count", 7);
        Edge.tells(State.MOST, State.MOST.made(true).call("count", 7), "count", 7);
    }

    /** "how many TOWNS there are LETTERS for": 0, 1, up to 10. */
    private static void countTowns() {
        RoadSorted x = new RoadSorted();
        for (int i = 0; i < 14; i++) {
            x.letter(0, 1, i % 10);
            Due.due("TOWNS of " + (i + 1) + " letters", x.count(3), Math.min(10, i + 1));
        }
        for (int i = 0; i < 14; i++) {
            x.set(i, 2, 9);
        }
        Due.due("TOWNS, all the same", x.count(3), 1);
    }
}
