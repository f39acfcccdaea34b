/** Promises 38 to 42: rows, images, counts. */
public final class RowsTest {
    private static final int BAD = RoadSorted.BAD, NO = RoadSorted.NO, FULL = RoadSorted.FULL;

    public static void main(String[] args) {
        tell();
        check();
        checkFindings();
        checkIsOfTheImage();
        checkNearTheLastJolt();
        keepAndBack();
        count();
        Due.end();
    }

    private static void tellAll(RoadSorted x, int... numbers) {
        for (int v : numbers) {
            x.tell(v);
        }
    }

    private static void tell() {
        RoadSorted x = new RoadSorted();
        for (int i = 1; i <= 60; i++) {
            Due.due("tell " + i, x.tell(BAD), i);
        }
        Due.due("tell 61", x.tell(1), FULL);
        Due.due("count(5)", x.count(5), 60);
        x.check(1);
        Due.due("tell behind check", x.tell(5), 1);
    }

    /** 10 20 90: on top 20, 20, 90, 90; CHANGES 1, 2, 3, 3, one of them ahead of the image. */
    private static RoadSorted bag() {
        RoadSorted x = new RoadSorted();
        x.letter(0, 10, 0);
        x.letter(0, 20, 0);
        x.letter(0, 90, 0);
        x.jolts(1);
        x.keep();
        return x;
    }

    private static void check() {
        RoadSorted x = bag();
        tellAll(x, 20, 2, 90, 3, 90, 3);
        Due.due("check(3)", x.check(3), 0);
        Due.due("none wait then", x.count(5), 0);
        int[] right = {20, 2, 90, 3, 90, 3};
        for (int wrong = 0; wrong < 6; wrong++) {
            for (int i = 0; i < 6; i++) {
                x.tell(i == wrong ? right[i] + 1 : right[i]);
            }
            Due.due("check(3), wrong at " + wrong, x.check(3), 1 + wrong);
            Due.due("none wait then", x.count(5), 0);
            for (int i = 0; i < wrong; i++) {
                x.tell(right[i]);
            }
            Due.due("check(3), missing at " + wrong, x.check(3), 1 + wrong);
        }
        tellAll(x, 20, 2, 90, 3, 90, 3, 90);
        Due.due("check(3), one too many", x.check(3), 7);
        tellAll(x, 20, 2, 90, 3, 90, 3, 90, 3);
        Due.due("check(3), two too many", x.check(3), 7);
        tellAll(x, 20, 2, 90, 3, 90, 3, 90);
        Due.due("check(4), one is missing", x.check(4), 8);
        Due.due("THE JOLT is as it was", x.count(1), 1);
        Due.due("z is as it was", x.count(7), 1103527590);
        Due.due("CHANGES are as they were", x.bag(2), 1);
        for (int i = 0; i < 30; i++) {
            tellAll(x, i == 0 ? 20 : 90, Math.min(3, 2 + i));
        }
        Due.due("check(30)", x.check(30), 0);
        for (int i = 0; i < 30; i++) {
            tellAll(x, i == 0 ? 20 : 90, Math.min(3, 2 + i));
        }
        Due.due("check(29)", x.check(29), 59);
    }

    private static void checkFindings() {
        RoadSorted x = new RoadSorted();
        tellAll(x, 1, 2);
        Due.due("check(1) without an image", x.check(1), NO);
        Due.due("none wait behind NO", x.count(5), 0);
        tellAll(x, 1, 2);
        Due.due("check(0) without an image: BAD stands first", x.check(0), BAD);
        Due.due("none wait behind BAD", x.count(5), 0);
        x.keep();
        Due.due("check(31)", x.check(31), BAD);
        Due.due("check(-1)", x.check(-1), BAD);
        tellAll(x, 0, 0, 0, 0);
        Due.due("check(2) without letters", x.check(2), 0);
        Due.due("check(1): none told", x.check(1), 1);
    }

    private static void checkIsOfTheImage() {
        RoadSorted x = bag();
        x.set(0, 1, 99);
        x.halt();
        x.seed(5);
        x.bump(100);
        x.deal(5);
        Due.text(x, "rise 0");
        tellAll(x, 20, 2, 90, 3, 90, 3);
        Due.due("check(3) of the image, whatever is now", x.check(3), 0);
        Due.due("THICK is as it is now", x.told(0, 1), 99);
        RoadSorted y = new RoadSorted();
        y.seed(31);
        y.deal(14);
        y.bump(60);
        Due.text(y, "rise t+m*d");
        y.keep();
        int[] told = new int[60];
        for (int i = 0; i < 30; i++) {
            y.jolts(1);
            told[2 * i] = y.told(y.at(0), 1);
            told[2 * i + 1] = y.bag(2);
        }
        tellAll(y, told);
        Due.due("check(30) with bumps and a text", y.check(30), 0);
    }

    private static void checkNearTheLastJolt() {
        RoadSorted x = new RoadSorted();
        x.letter(0, 33, 0);
        for (int i = 0; i < 99; i++) {
            x.jolts(100);
        }
        x.jolts(97);
        x.keep();
        tellAll(x, 33, 0, 33, 0);
        Due.due("check(3) at 9997", x.check(3), 0);
        tellAll(x, 33, 0, 33, 0, 33, 0);
        Due.due("check(3) at 9997, three told", x.check(3), 5);
        x.jolts(9);
        tellAll(x, 33, 0, 33, 0);
        Due.due("check(3) is by the image's jolt", x.check(3), 0);
        x.keep();
        Due.due("check(1) at 9999", x.check(1), 0);
        x.tell(33);
        Due.due("check(1) at 9999, one told", x.check(1), 1);
    }

    private static int[] state(RoadSorted x) {
        int[] state = new int[20 + 14 * 8 + 14 * 2];
        for (int what = 0; what < 8; what++) {
            state[what] = what == 5 || what == 6 ? 0 : x.count(what);
        }
        for (int what = 0; what < 5; what++) {
            state[8 + what] = x.bag(what);
        }
        for (int key = 0; key < 3; key++) {
            state[13 + key] = x.why(key);
        }
        state[16] = x.fee();
        state[17] = x.fine(0);
        for (int i = 0; i < 14 * 8; i++) {
            state[20 + i] = x.told(i / 8, i % 8);
        }
        for (int i = 0; i < 14 * 2; i++) {
            state[20 + 14 * 8 + i] = x.textTold(i / 2, i % 2);
        }
        return state;
    }

    private static void same(String call, int[] got, int[] want) {
        for (int i = 0; i < want.length; i++) {
            Due.due(call + ": state " + i, got[i], want[i]);
        }
    }

    private static void keepAndBack() {
        RoadSorted x = new RoadSorted();
        Due.due("back() without an image", x.back(), NO);
        x.seed(17);
        x.deal(5);
        x.bump(20);
        x.jolts(7);
        Due.text(x, "rise t+m");
        Due.text(x, "fee m*j");
        int[] kept = state(x);
        Due.due("keep()", x.keep(), 5);
        same("keep() changes nothing", state(x), kept);
        for (int again = 0; again < 3; again++) {
            x.deal(9);
            x.halt();
            x.puts(0, 3);
            x.set(1, 1, 77);
            x.set(2, 2, 7);
            x.turns(3, 4);
            x.bump(50 + again);
            x.jolts(30);
            Due.text(x, "rise 100-t");
            Due.text(x, "fine t");
            Due.text(x, "fee 3");
            Due.due("back()", x.back(), 5);
            same("back()", state(x), kept);
        }
        Due.text(x, "fine t+p");
        x.letter(0, 1, 1);
        int[] newer = state(x);
        Due.due("keep() of a newer one", x.keep(), 6);
        Due.text(x, "fine 1");
        x.jolts(3);
        Due.due("back() to the newer one", x.back(), 6);
        same("back() to the newer one", state(x), newer);
        othersAreNotKept();
    }

    private static void othersAreNotKept() {
        RoadSorted x = new RoadSorted();
        x.sheet(0, 0, 2);
        x.lay(0, 3, 5);
        x.tell(1);
        x.feed(0, 0, 0);
        x.keep();
        x.sheet(0, 1, 7);
        x.mark(0, 6, 4);
        x.lay(0, 3, 6);
        x.tell(2);
        x.feed(0, 0, 0);
        x.back();
        x.lay(1, 2, 0);
        Due.due("SHEETS are not kept", x.item(1, 6), 4);
        Due.due("SLOTS are not kept", x.rest(0, 100), 6);
        Due.due("numbers that wait are not kept", x.count(5), 2);
        Due.due("THE TAPE is not kept", x.count(6), 24);
    }

    private static void count() {
        RoadSorted x = new RoadSorted();
        x.seed(-5);
        x.letter(0, 1, 0);
        x.letter(0, 2, 3);
        x.letter(0, 3, 3);
        x.letter(0, 4, 9);
        x.jolts(1);
        x.bump(44);
        Due.text(x, "fee 1");
        Due.text(x, "fee 1");
        x.tell(0);
        x.feed(1, 2, 3);
        int[] want = {4, 1, 44, 3, 2, 1, 12, -5 * 1103515245 + 12345};
        for (int what = 0; what < 8; what++) {
            Due.due("count(" + what + ")", x.count(what), want[what]);
        }
        Due.due("count(8)", x.count(8), BAD);
        Due.due("count(-1)", x.count(-1), BAD);
    }
}
