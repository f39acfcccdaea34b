/** What the tests share: answers that are due, and texts put on the tape. */
final class Due {
    private static int wrong = 0;
    private static int asked = 0;

    private Due() {
    }

    static void due(String call, long got, long want) {
        asked++;
        if (got != want) {
            wrong++;
            System.out.println(call + " answered " + got + ", due is " + want);
        }
    }

    static void holds(String what, boolean holds) {
        asked++;
        if (!holds) {
            wrong++;
            System.out.println("does not hold: " + what);
        }
    }

    /** Bytes (characters 0 to 255) come behind what is on the tape. */
    static void feed(RoadSorted x, String bytes) {
        int length = x.count(6) + bytes.length();
        for (int i = 0; i < bytes.length(); i += 12) {
            x.feed(four(bytes, i), four(bytes, i + 4), four(bytes, i + 8));
        }
        x.trim(length);
    }

    static int text(RoadSorted x, String bytes) {
        feed(x, bytes);
        return x.text();
    }

    private static int four(String bytes, int from) {
        int v = 0;
        for (int i = from; i < from + 4; i++) {
            v = v << 8 | (i < bytes.length() ? bytes.charAt(i) : ' ');
        }
        return v;
    }

    static void end() {
        System.out.println(wrong == 0 ? asked + " answers are as due" : wrong + " of " + asked + " answers are not as due");
        if (wrong != 0) {
            System.exit(1);
        }
    }
}
