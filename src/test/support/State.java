/** States in which the edges of calls are tried. */
enum State {
    /** Nothing but what a new object has. */
    NEW,
    /** Four letters, three texts, an image, sheets of both sorts (2 without places, 3 missing), 12 bytes, 4 numbers. */
    SOME,
    /** 14 letters, 14 texts, an image, sheets of 24 places, 96 bytes, 60 numbers, BUMP 100. */
    MOST,
    /** THE JOLT at 9999, three letters that are not sorted, an image, a sheet. */
    LAST;

    Calls made(boolean ofModel) {
        return made(ofModel, true);
    }

    /** Without its numbers that wait, if they are not told. */
    Calls made(boolean ofModel, boolean tells) {
        Calls x = ofModel ? Calls.ofModel() : Calls.ofClass();
        switch (this) {
            case SOME: some(x, tells); break;
            case MOST: most(x, tells); break;
            case LAST: last(x); break;
            default: break;
        }
        return x;
    }

    int letters() {
        return this == NEW ? 0 : this == SOME ? 4 : this == MOST ? 14 : 3;
    }

    private static void some(Calls x, boolean tells) {
        someKept(x);
        if (tells) {
            Calls twin = Calls.ofModel();
            someKept(twin);
            tellJolts(x, twin, 2);
        }
        x.call("jolts", 2);
        x.call("halt");
        x.call("letter", 2, 99, 9);
        x.text("rise t+d");
        x.row(0, 0, 3, 1, 0);
        x.row(1, 1, 4, RoadSorted.NONE, -7, 99999);
        x.row(2, 0);
        x.call("lay", 1, 1, 1);
        x.call("lay", 2, 2, 1);
        x.call("lay", 3, 3, 17);
        x.call("lay", 4, 2, 0);
        x.tape("fee 12 +j*10");
    }

    private static void someKept(Calls x) {
        x.call("letter", 0, 10, 1);
        x.call("letter", 1, 50, 2);
        x.call("letter", 5, 40, 1);
        x.call("seed", 77);
        x.call("bump", 30);
        x.call("jolts", 3);
        x.text("fee m+j");
        x.text("fine t*p");
        x.call("keep");
    }

    private static void most(Calls x, boolean tells) {
        mostKept(x);
        if (tells) {
            Calls twin = Calls.ofModel();
            mostKept(twin);
            tellJolts(x, twin, 30);
        }
        x.call("jolts", 3);
        x.text("rise t+m");
        int[] shorts = new int[24];
        shorts[0] = 13;
        shorts[23] = -5;
        int[] floats = new int[24];
        floats[1] = RoadSorted.NONE;
        floats[23] = -99999;
        for (int sheet = 0; sheet < 4; sheet++) {
            x.row(sheet, sheet % 2, sheet % 2 == 0 ? shorts : floats);
        }
        x.call("lay", 0, 1, 13);
        x.call("lay", 1, 2, 1);
        x.call("lay", 2, 3, Integer.MIN_VALUE);
        x.call("lay", 3, 2, 2);
        x.call("lay", 4, 1, 0);
        x.tape("fee 1" + "+1".repeat(45) + " ");
    }

    private static void mostKept(Calls x) {
        x.call("seed", 5);
        x.call("deal", 14);
        x.call("bump", 100);
        for (int i = 0; i < 13; i++) {
            x.text(i % 2 == 0 ? "fee m*2" : "fine t+p");
        }
        x.call("keep");
    }

    private static void last(Calls x) {
        x.call("letter", 0, 10, 1);
        x.call("letter", 0, 90, 2);
        x.call("letter", 0, 50, 1);
        for (int i = 0; i < 100; i++) {
            x.call("jolts", 100);
        }
        x.call("halt");
        x.row(0, 0, 2);
        x.call("keep");
    }

    /** THE JOLTS TOLD, as a twin of the image rides on. */
    private static void tellJolts(Calls x, Calls twin, int n) {
        for (int i = 0; i < n; i++) {
            twin.call("jolts", 1);
            x.call("tell", twin.call("told", twin.call("at", 0), 1));
            x.call("tell", twin.call("bag", 2));
        }
    }
}
