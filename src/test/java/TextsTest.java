/** Promises 22 to 28: the tape, texts, what they give, their faults. */
public final class TextsTest {
    private static final int BAD = RoadSorted.BAD, FULL = RoadSorted.FULL, NONE = RoadSorted.NONE;
    private static final int MIN = Integer.MIN_VALUE, MAX = Integer.MAX_VALUE;

    public static void main(String[] args) {
        feedAndTrim();
        bytes();
        text();
        gives();
        faults();
        depths();
        textTold();
        why();
        rise();
        riseByMoved();
        Due.end();
    }

    private static void feedAndTrim() {
        RoadSorted x = new RoadSorted();
        for (int i = 1; i <= 8; i++) {
            Due.due("feed " + i, x.feed(0, -1, i), 12 * i);
        }
        Due.due("feed 9", x.feed(0, 0, 0), FULL);
        Due.due("count(6)", x.count(6), 96);
        Due.due("trim(97)", x.trim(97), BAD);
        Due.due("trim(-1)", x.trim(-1), BAD);
        Due.due("trim(96)", x.trim(96), 96);
        Due.due("trim(85)", x.trim(85), 85);
        Due.due("feed beyond 96", x.feed(0, 0, 0), FULL);
        Due.due("trim(86)", x.trim(86), BAD);
        Due.due("trim(84)", x.trim(84), 84);
        Due.due("feed up to 96", x.feed(0, 0, 0), 96);
        Due.due("trim(0)", x.trim(0), 0);
        Due.due("trim(1)", x.trim(1), BAD);
        Due.due("count(6)", x.count(6), 0);
        Due.due("feed", x.feed(MIN, MAX, 0), 12);
    }

    /** "fee 12 +j*10": 'fee ' '12 +' 'j*10', each the highest byte first. */
    private static void bytes() {
        RoadSorted x = new RoadSorted();
        x.jolts(7);
        Due.due("feed", x.feed(0x66656520, 0x3132202b, 0x6a2a3130), 12);
        Due.due("text()", x.text(), 0);
        Due.due("fee()", x.fee(), 82);
        x.feed(0x66656520, 0x3132202b, 0x6a2a3130);
        x.trim(6);
        Due.due("text() of the first bytes", x.text(), 1);
        Due.due("fee()", x.fee(), 12);
        x.feed(0x66656520, 0x3132202b, 0x6a2a3130);
        x.trim(5);
        Due.due("text() of half a number", x.text(), 2);
        Due.due("fee()", x.fee(), 1);
    }

    private static void text() {
        RoadSorted x = new RoadSorted();
        Due.due("text() of nothing", x.text(), -100);
        x.feed(0x20202020, 0x20202020, 0x20202020);
        Due.due("text() of blanks", x.text(), -112);
        Due.due("the tape is used up", x.count(6), 0);
        Due.due("text() with a fault at a word", Due.text(x, "fees"), -100);
        Due.due("text() behind it, with no blank ahead", Due.text(x, "fee ((!t"), -107);
        for (int i = 0; i < 14; i++) {
            Due.due("text " + i, Due.text(x, i % 3 == 0 ? "rise t" : i % 3 == 1 ? "fee m" : "fine p"), i);
            Due.due("count(4)", x.count(4), i + 1);
            Due.due("count(6)", x.count(6), 0);
        }
        Due.due("text 15", Due.text(x, "fee j"), FULL);
        Due.due("the tape is used up by FULL too", x.count(6), 0);
        Due.due("text 15 with a fault: it stands first", Due.text(x, "fee j j"), -106);
        Due.due("the tape is used up by a fault too", x.count(6), 0);
        Due.due("count(4)", x.count(4), 14);
        x.jolts(5);
        Due.due("fee() is as it was", x.fee(), 0);
    }

    private static void fee(String e, int want) {
        RoadSorted x = new RoadSorted();
        x.jolts(6);
        Due.due("text fee " + e, Due.text(x, "fee " + e), 0);
        Due.due("fee() by " + e, x.fee(), want);
    }

    private static void gives() {
        String[] e = {"7", "0", "0007", "9999", "j", "m", "1+2*3", "(1+2)*3", "10-3-2", "10-(3-2)", "100/7/2", "7/2*2", "7*2/4",
            "2*3+4*5", "0-7", "(0-7)/2", "7/(0-2)", "7/0", "0/0", "j/m", "1<2", "2<1", "1<1", "2>1", "1>2", "1>1", "1=1", "1=2",
            "1+1=2", "(1<2)+(3>2)", "3&4", "3&0", "0&3", "0&0", "3|4", "0|3", "3|0", "0|0", "!0", "!1", "!5", "!!5", "!j+1", "!(j-6)",
            "1|1&0", "(1|1)&0", "0&0|1", "1<2&2<3", "1<2&3<2|1", "1=0|2", "2=1|1", "5&2=2", "9999*9999*99", "9999*9999*9999",
            "!0*5", "! ! 0", " ( j ) ", "j   +1", "1 + 2*( 3-1 )", "!(1=1)|!0&j", "2-1<1+1", "j>5&j<7", "1+!1+!0"};
        int[] want = {7, 0, 7, 9999, 6, 0, 7, 9, 5, 9, 7, 6, 3,
            26, -7, -3, -3, 0, 0, 0, 1, 0, 0, 1, 0, 0, 1, 0,
            1, 2, 1, 0, 0, 0, 1, 1, 1, 0, 1, 0, 0, 1, 1, 1,
            1, 0, 1, 1, 1, 1, 1, 1, 9999 * 9999 * 99, 9999 * 9999 * 9999,
            5, 0, 6, 7, 5, 1, 1, 1, 2};
        for (int i = 0; i < e.length; i++) {
            fee(e[i], want[i]);
        }
        // -2147483648 / -1: 2147483648 as 8192 * 8192 * 32 wraps to MIN.
        fee("8192*8192*32", MIN);
        fee("8192*8192*32/(0-1)", MIN);
        fee("8192*8192*32-1", MAX);
        fee("8192*8192*32<1", 1);
        fee("1-8192*8192*32<0", 1);
        RoadSorted x = new RoadSorted();
        Due.due("blanks at the ends", Due.text(x, "   fee   3   "), 0);
        Due.due("fee()", x.fee(), 3);
        Due.due("no blank where a sign stands", Due.text(x, "fee(4)"), 1);
        Due.due("fee()", x.fee(), 4);
        Due.due("no blank where ! stands", Due.text(x, "fee!4"), 2);
        Due.due("fee()", x.fee(), 0);
    }

    private static void fault(String text, int place) {
        RoadSorted x = new RoadSorted();
        Due.due("text() of '" + text + "'", Due.text(x, text), -100 - place);
        Due.due("count(4)", x.count(4), 0);
    }

    private static void faults() {
        fault("", 0);
        fault(" ", 1);
        fault("rise", 4);
        fault("rise ", 5);
        fault("rise  ", 6);
        fault("ris t", 0);
        fault("riset", 0);
        fault("xise t", 0);
        fault("rise ta", 5);
        fault("rise tz", 5);
        fault("riser t", 0);
        fault("  fees m", 2);
        fault("Rise t", 0);
        fault("t", 0);
        fault("5", 0);
        fault("(fee m)", 0);
        fault("rise rise t", 5);
        fault("fee2", 3);
        fault("fee 2j", 5);
        fault("fee j2", 5);
        fault("fee 2 2", 6);
        fault("fee mj", 4);
        fault("fee mm", 4);
        fault("fee t", 4);
        fault("fee d", 4);
        fault("fee p", 4);
        fault("rise j", 5);
        fault("rise p", 5);
        fault("fine d", 5);
        fault("fine m", 5);
        fault("fine j", 5);
        fault("fee 12345", 4);
        fault("fee 00001", 4);
        fault("fee 1 + 123456", 8);
        fault("fee 1234 5", 9);
        fault("fee -1", 4);
        fault("fee +", 4);
        fault("fee 1+", 6);
        fault("fee 1+ ", 7);
        fault("fee 1++1", 6);
        fault("fee 1**1", 6);
        fault("fee 1<2<3", 7);
        fault("fee 1<2=3", 7);
        fault("fee (1<2)<3<1", 11);
        fault("fee 1<=2", 6);
        fault("fee 1&&1", 6);
        fault("fee 1!", 5);
        fault("fee 1!=2", 5);
        fault("fee !", 5);
        fault("fee !+1", 5);
        fault("fee ()", 5);
        fault("fee (1", 6);
        fault("fee (1  ", 8);
        fault("fee 1)", 5);
        fault("fee (1))", 7);
        fault("fee (1+)", 7);
        fault("fee (1 2)", 7);
        fault("fee 1(2)", 5);
        fault("fee (1)(2)", 7);
        fault("fee (1)2", 7);
        fault("fee 1%2", 5);
        fault("fee\t1", 3);
        fault("fee 1\n", 5);
        fault("fee 1" + (char) 0, 5);
        fault("fee " + (char) 233, 4);
        fault("fee " + (char) 255 + "1", 4);
        fault("fee M", 4);
        fault("fee `", 4);
        fault("fee {", 4);
        fault("fee 1:", 5);
        fault("fee 1/", 6);
        StringBuilder most = new StringBuilder("fee 1");
        while (most.length() < 95) {
            most.append("+1");
        }
        Due.due("length", most.length(), 95);
        fault(most + "+", 96);
        RoadSorted x = new RoadSorted();
        Due.due("text() of 96 bytes", Due.text(x, most + " "), 0);
        Due.due("fee()", x.fee(), 46);
        Due.due("textTold(0, 1)", x.textTold(0, 1), 46);
    }

    private static void depths() {
        fee("((((((((1))))))))", 1);
        fee("!!!!!!!!3", 1);
        fault("fee (((((((((1)))))))))", 12);
        fault("fee !!!!!!!!!1", 12);
        fee("((((((((1)))))))) + ((((((((1))))))))", 2);
        fee("!!!!!!!!3 + !!!!!!!!3", 2);
        fee("!(!(!(!(!(!(!(!(3))))))))", 1);
        fee("!!!!((((!!!!((((5))))))))", 1);
        fault("fee !!!!((((!!!!!((((5))))))))", 16);
        fault("fee !!!!((((!!!!(((((5)))))))))", 20);
        fee("!!!!((((!!!!5 + !!!!5))))", 1);
        fee("!!!!((((!!!!5)))) + !!!!!!!!5", 2);
        fee("!(!!!!!!!5) + 1", 2);
        fault("fee ((((((((1)))))))) + (((((((((1", 32);
        fault("fee !!!!!!!!1 + !!!!!!!!!1", 24);
    }

    private static void textTold() {
        RoadSorted x = new RoadSorted();
        Due.due("textTold(0, 0) without one", x.textTold(0, 0), BAD);
        Due.text(x, "rise t");
        Due.text(x, "fee !m + (j*12) - 3 / m | 4444");
        Due.text(x, "fine ((t<p))");
        int[][] want = {{0, 1}, {1, 6}, {2, 2}};
        for (int i = 0; i < 3; i++) {
            Due.due("textTold(" + i + ", 0)", x.textTold(i, 0), want[i][0]);
            Due.due("textTold(" + i + ", 1)", x.textTold(i, 1), want[i][1]);
        }
        Due.due("textTold(3, 0)", x.textTold(3, 0), BAD);
        Due.due("textTold(-1, 0)", x.textTold(-1, 0), BAD);
        Due.due("textTold(0, 2)", x.textTold(0, 2), BAD);
        Due.due("textTold(0, -1)", x.textTold(0, -1), BAD);
        Due.due("textTold(MAX, 0)", x.textTold(MAX, 0), BAD);
    }

    private static void why() {
        RoadSorted x = new RoadSorted();
        for (int key = 0; key < 3; key++) {
            Due.due("why(" + key + ") without one", x.why(key), NONE);
        }
        Due.due("why(3)", x.why(3), BAD);
        Due.due("why(-1)", x.why(-1), BAD);
        Due.text(x, "fee 5");
        Due.text(x, "fine 6");
        Due.text(x, "fee 7");
        Due.text(x, "fee 8 +");
        Due.due("why(0)", x.why(0), NONE);
        Due.due("why(1)", x.why(1), 2);
        Due.due("why(2)", x.why(2), 1);
        Due.due("fee()", x.fee(), 7);
        x.keep();
        Due.text(x, "rise 1");
        Due.text(x, "fee 9");
        Due.due("why(0)", x.why(0), 3);
        Due.due("why(1)", x.why(1), 4);
        Due.due("fee()", x.fee(), 9);
        x.back();
        Due.due("why(0) behind back", x.why(0), NONE);
        Due.due("why(1) behind back", x.why(1), 2);
        Due.due("fee() behind back", x.fee(), 7);
        Due.due("textTold(3, 0) behind back", x.textTold(3, 0), BAD);
        Due.due("text behind back", Due.text(x, "fine 10"), 3);
        Due.due("textTold(3, 0)", x.textTold(3, 0), 2);
    }

    private static void rise() {
        RoadSorted x = new RoadSorted();
        for (int kind = 0; kind < 6; kind++) {
            x.letter(kind, 10 + kind, kind);
        }
        Due.text(x, "rise 100*d+t");
        int[] want = {10, 91, 207, 146, 0, 1030};
        for (int i = 0; i < 6; i++) {
            Due.due("RISES of " + i, x.told(i, 5), want[i]);
        }
        Due.due("GRIPS are as they were", x.told(2, 6), 10);
        Due.due("WORTH is as it was", x.told(2, 7), 87);
        Due.due("MESS by the text", x.bag(0), 10);
        x.set(0, 2, 9);
        Due.due("RISES by the new TOWN", x.told(0, 5), 910);
        x.set(0, 1, 99);
        Due.due("RISES are held at 999", x.told(0, 5), 999);
        Due.text(x, "rise 9999");
        int[] most = {999, 979, 994, 489, 0, 1998};
        for (int i = 0; i < 6; i++) {
            Due.due("RISES at most of " + i, x.told(i, 5), most[i]);
        }
        Due.text(x, "rise 0-5");
        for (int i = 0; i < 6; i++) {
            Due.due("RISES at least of " + i, x.told(i, 5), 0);
        }
        x.letter(0, 50, 0);
        Due.due("RISES of a new one", x.told(6, 5), 0);
        x.sheet(0, 0, 6);
        x.mark(0, 0, 3);
        Due.text(x, "rise d");
        x.pour(0);
        Due.due("RISES by a poured TOWN", x.told(0, 5), 3);
        Due.text(x, "fee 1");
        Due.due("RISES are of rise alone", x.told(0, 5), 3);
    }

    private static void riseByMoved() {
        RoadSorted x = new RoadSorted();
        x.letter(0, 10, 0);
        x.letter(0, 60, 0);
        Due.text(x, "rise t - 30*m");
        Due.due("behind(1, 0)", x.behind(1, 0), 0);
        x.jolts(1);
        Due.due("RISES of one that moved", x.told(1, 5), 30);
        Due.due("RISES of the other one", x.told(0, 5), 0);
        x.halt();
        x.jolts(2);
        Due.due("RISES of one that moved twice", x.told(1, 5), 0);
        Due.due("CHANGES", x.bag(2), 2);
        x.halt();
        Due.due("rests()", x.rests(), 0);
    }
}
