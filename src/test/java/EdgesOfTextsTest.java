import java.util.List;

/** Each sentence of promises 24 to 28, and of term 4, that names a bound: within it, beyond it, and what a refused call leaves. */
public final class EdgesOfTextsTest {
    private static final int BAD = RoadSorted.BAD, FULL = RoadSorted.FULL, NONE = RoadSorted.NONE;
    private static final int MIN = Integer.MIN_VALUE, MAX = Integer.MAX_VALUE;

    public static void main(String[] args) {
        feed();
        feedUpToTheMost();
        trim();
        textUsesUpTheTape();
        textIsFull();
        textOfMostBytes();
        everyByte();
        everyName();
        numbers();
        blanks();
        endComesTooSoon();
        openBrackets();
        openNots();
        openOnesAreForgotten();
        oneTestAlone();
        whatIsWorkedOut();
        textTold();
        why();
        Due.end();
    }

    /** What a text alone, on a new object, answers. */
    private static int read(String text) {
        return Due.text(new RoadSorted(), text);
    }

    private static void fault(String text, int place) {
        RoadSorted x = new RoadSorted();
        Due.due("text() of '" + text + "'", Due.text(x, text), -100 - place);
        Due.due("the tape behind '" + text + "'", x.count(6), 0);
        Due.due("TEXTS behind '" + text + "'", x.count(4), 0);
    }

    private static void fee(String e, int want) {
        RoadSorted x = new RoadSorted();
        Due.due("text() of 'fee " + e + "'", Due.text(x, "fee " + e), 0);
        Due.due("fee() by '" + e + "'", x.fee(), want);
    }

    /** Promise 24: it takes every int. */
    private static void feed() {
        for (int v : new int[] {MIN, -1, 0, BAD, MAX}) {
            Edge.does(State.NEW, 12, "feed", v, v, v);
            Edge.does(State.SOME, 24, "feed", v, 0, v);
            Edge.refused(State.MOST, FULL, "feed", v, v, v);
        }
    }

    /** "FULL: it would have more than 96": from 84 bytes on it has 96, from 85 on it would have more. */
    private static void feedUpToTheMost() {
        for (int bytes = 80; bytes <= 96; bytes++) {
            RoadSorted x = new RoadSorted();
            for (int i = 0; i < 8; i++) {
                x.feed(0, 0, 0);
            }
            x.trim(bytes);
            Due.due("feed behind " + bytes + " bytes", x.feed(1, 2, 3), bytes <= 84 ? bytes + 12 : FULL);
            Due.due("bytes then", x.count(6), bytes <= 84 ? bytes + 12 : bytes);
        }
        RoadSorted x = new RoadSorted();
        Due.feed(x, "fee 1 " + " ".repeat(79));
        Due.due("85 bytes", x.count(6), 85);
        Due.due("feed", x.feed(0, 0, 0), FULL);
        Due.due("what was there is as it was", x.text(), 0);
    }

    /** Promise 25: its first n bytes, 0 up to as many as there are. */
    private static void trim() {
        Edge.tells(State.NEW, 0, "trim", 0);
        Edge.refused(State.NEW, BAD, "trim", 1);
        Edge.refused(State.NEW, BAD, "trim", -1);
        Edge.within(State.SOME, "trim", 0, 0, 12, 0);
        Edge.within(State.MOST, "trim", 0, 0, 96, 0);
        Edge.tells(State.SOME, 12, "trim", 12);
        Edge.does(State.SOME, 11, "trim", 11);
        Edge.does(State.MOST, 95, "trim", 95);
    }

    /** "an act that reads it uses it up, whatever it answers". */
    private static void textUsesUpTheTape() {
        Edge.tells(State.NEW, -100, "text");
        Edge.does(State.SOME, 3, "text");
        Edge.refusedBut(State.MOST, FULL, "text");
        Edge.tells(State.LAST, -100, "text");
        Calls x = State.SOME.made(false);
        x.call("trim", 11);
        Due.due("text() of 'fee 12 +j*1'", x.call("text"), 3);
        Due.due("bytes", x.call("count", 6), 0);
        Due.due("text() again", x.call("text"), -100);
        RoadSorted y = new RoadSorted();
        Due.due("a fault", Due.text(y, "rise q"), -105);
        Due.due("bytes", y.count(6), 0);
        Due.due("a text behind it", Due.text(y, "rise t"), 0);
    }

    /** "TEXTS, 14 at most"; a FAULT stands ahead of FULL; what is refused does not count. */
    private static void textIsFull() {
        RoadSorted x = new RoadSorted();
        for (int i = 0; i < 13; i++) {
            Due.due("text " + i, Due.text(x, "fee " + i), i);
        }
        Due.due("a fault ahead of the 14th", Due.text(x, "fee"), -103);
        Due.due("TEXTS", x.count(4), 13);
        x.keep();
        Due.due("the 14th", Due.text(x, "fee 13"), 13);
        Due.due("TEXTS", x.count(4), 14);
        for (String key : new String[] {"rise t+1", "fee 14", "fine 14"}) {
            Due.due("the 15th", Due.text(x, key), FULL);
            Due.due("bytes", x.count(6), 0);
        }
        Due.due("the 15th with a fault", Due.text(x, "fee 14 14"), -107);
        Due.due("TEXTS", x.count(4), 14);
        Due.due("fee()", x.fee(), 13);
        Due.due("why(0)", x.why(0), NONE);
        Due.due("why(1)", x.why(1), 13);
        Due.due("why(2)", x.why(2), NONE);
        x.back();
        Due.due("behind back there is room for one", Due.text(x, "fine 7"), 13);
        Due.due("and no more", Due.text(x, "fine 8"), FULL);
    }

    /** "THE TAPE (96 bytes at most)", all of them used; "the end (the place behind the last byte)". */
    private static void textOfMostBytes() {
        String most = "fee" + " ".repeat(92) + "7";
        Due.due("bytes", most.length(), 96);
        Due.due("text() of 96 bytes", read(most), 0);
        fault(" ".repeat(96), 96);
        fault("fee" + " ".repeat(93), 96);
        fault("fee" + " ".repeat(92) + "(", 96);
        fault("fee" + " ".repeat(92) + ")", 95);
        fault("a".repeat(96), 0);
        fault("fee " + "1".repeat(92), 4);
        fault("fee " + "m".repeat(92), 4);
        fault("fee 1" + "+1".repeat(45) + "+", 96);
        fee("1" + "*1".repeat(45) + " ", 1);
        fee("!1" + "|!1".repeat(30), 0);
    }

    private static boolean isLetter(int b) {
        return b >= 'a' && b <= 'z';
    }

    private static boolean isDigit(int b) {
        return b >= '0' && b <= '9';
    }

    private static boolean joins(int b) {
        return b > 0 && "|&<=>+-*/".indexOf(b) >= 0;
    }

    /** Every byte at every sort of place: "any other byte is a sign by itself", blanks are byte 32 alone. */
    private static void everyByte() {
        for (int b = 0; b < 256; b++) {
            String s = String.valueOf((char) b);
            String told = ", byte " + b;
            Due.due("ahead of the key" + told, read(s + "fee 1"), b == ' ' ? 0 : -100);
            int behindKey = b == ' ' || b == '!' ? 0 : b == '(' ? -105 : isLetter(b) ? -100 : -103;
            Due.due("behind the key" + told, read("fee" + s + "1"), behindKey);
            int piece = isDigit(b) || b == 'm' || b == 'j' ? 0 : b == '(' || b == '!' || b == ' ' ? -105 : -104;
            Due.due("for a piece" + told, read("fee " + s), piece);
            int behindPiece = isDigit(b) || b == ' ' ? 0 : joins(b) ? -106 : -105;
            Due.due("behind a number" + told, read("fee 1" + s), behindPiece);
            int behindName = b == ' ' ? 0 : joins(b) ? -106 : isLetter(b) ? -104 : -105;
            Due.due("behind a name" + told, read("fee m" + s), behindName);
            int behindBracket = b == ' ' ? 0 : joins(b) ? -108 : -107;
            Due.due("behind brackets" + told, read("fee (1)" + s), behindBracket);
            int inBrackets = b == ')' ? 0 : isDigit(b) || b == ' ' || joins(b) ? -107 : -106;
            Due.due("in brackets" + told, read("fee (1" + s), inBrackets);
            int behindNot = isDigit(b) || b == 'm' || b == 'j' ? 0 : b == '(' || b == '!' || b == ' ' ? -106 : -105;
            Due.due("behind !" + told, read("fee !" + s), behindNot);
            int behindSign = isDigit(b) || b == 'm' || b == 'j' ? 0 : b == '(' || b == '!' || b == ' ' ? -107 : -106;
            Due.due("behind +" + told, read("fee 1+" + s), behindSign);
        }
    }

    /** "NAMES, each one letter", of their KEY alone; other words are no KEY. */
    private static void everyName() {
        String[] keys = {"rise", "fee", "fine"};
        String[] names = {"tdm", "mj", "tp"};
        for (int key = 0; key < 3; key++) {
            for (char c = 'a'; c <= 'z'; c++) {
                int at = keys[key].length() + 1;
                boolean known = names[key].indexOf(c) >= 0;
                Due.due(keys[key] + " " + c, read(keys[key] + " " + c), known ? 0 : -100 - at);
                Due.due(keys[key] + " " + c + c, read(keys[key] + " " + c + c), -100 - at);
                Due.due(c + keys[key], read(c + keys[key] + " 1"), -100);
                Due.due(keys[key] + c, read(keys[key] + c + " 1"), -100);
            }
            for (int end = 0; end < keys[key].length(); end++) {
                fault(keys[key].substring(0, end), 0);
            }
            fault(keys[key] + " " + keys[key], keys[key].length() + 1);
            fault(keys[key].toUpperCase(java.util.Locale.ROOT) + " 1", 0);
        }
    }

    /** "NUMBER (1 to 4 digits)", "a NUMBER of more than 4 digits". */
    private static void numbers() {
        fee("0", 0);
        fee("9", 9);
        fee("10", 10);
        fee("999", 999);
        fee("1000", 1000);
        fee("9999", 9999);
        fee("0000", 0);
        fee("0009", 9);
        fault("fee 00000", 4);
        fault("fee 10000", 4);
        fault("fee 99999", 4);
        fault("fee 00009", 4);
        fault("fee 4294967297", 4);
        fault("fee 9999+10000", 9);
        fault("fee 9999 9", 9);
        fault("fee (12345)", 5);
        fault("fee !12345", 5);
        fault("12345 fee", 0);
        fault("fee 12345m", 4);
    }

    /** "Between words and signs, and at the ends, there may be blanks; a word right behind another one needs one". */
    private static void blanks() {
        fee(" 1", 1);
        fee("1 ", 1);
        fee("1  +  !  (  0  )  ", 2);
        fault("fee1", 3);
        fault("fee 1m", 5);
        fault("fee m1", 5);
        fault("fee 1 m", 6);
        fault("fee m 1", 6);
        fault("fee 1 1", 6);
        fault("fe e 1", 0);
        fault("fee 1 2+", 6);
        fault("fee (1)m", 7);
        fault("fee (1)1", 7);
        fault("fee 1+2m", 7);
        fault("fee 1" + (char) 160 + "+1", 5);
        fault("fee" + (char) 9 + "1", 3);
        Due.due("no blank is needed ahead of a sign", read("fee(m)*(1)<!j"), 0);
    }

    /** "the end (the place behind the last byte), if it comes too soon": a text cut behind each of its bytes. */
    private static void endComesTooSoon() {
        String text = "  fee  ( 1 +m )*! j ";
        boolean[] whole = new boolean[text.length() + 1];
        for (int end : new int[] {15, 19, 20}) {
            whole[end] = true;
        }
        for (int end = 0; end <= text.length(); end++) {
            boolean inKey = end == 3 || end == 4;
            int want = whole[end] ? 0 : -100 - (inKey ? 2 : end);
            Due.due("text() of the first " + end + " bytes", read(text.substring(0, end)), want);
        }
    }

    /** "the ninth ( that would be open within others". */
    private static void openBrackets() {
        for (int open = 1; open <= 12; open++) {
            String text = "(".repeat(open) + "5" + ")".repeat(open);
            if (open <= 8) {
                fee(text, 5);
                fee(text + "+" + text, 10);
                fault("fee " + text + ")", 4 + text.length());
                fault("fee " + text.substring(0, text.length() - 1), 4 + text.length() - 1);
            } else {
                fault("fee " + text, 12);
                fault("fee 1+" + text, 14);
            }
        }
        fee("((((((((1)+(1))+(1))))))+(1))", 4);
        fee("(((((((1)))))))" + "+(1)", 2);
        fault("fee ((((((((1)+((", 16);
        fault("fee (((((((((", 12);
    }

    /** "the ninth ! likewise, each by itself": open until its PIECE ends, brackets within it too. */
    private static void openNots() {
        for (int open = 1; open <= 12; open++) {
            String text = "!".repeat(open) + "5";
            if (open <= 8) {
                fee(text, open % 2 == 0 ? 1 : 0);
                fee(text + "+" + text, open % 2 == 0 ? 2 : 0);
                fault("fee " + "!".repeat(open), 4 + open);
            } else {
                fault("fee " + text, 12);
                fault("fee 1+" + text, 14);
            }
        }
        fee("!(!(!(!(!(!(!(!(5))))))))", 1);
        fault("fee !(!(!(!(!(!(!(!(!5))))))))", 20);
        fault("fee !(!(!(!(!(!(!(!((5))))))))", 20);
        fee("!!!!!!!!((((((((5))))))))", 1);
        fault("fee !!!!!!!!(!5)", 13);
        fee("((((((((!!!!!!!!5))))))))", 1);
        fault("fee ((((((((!!!!!!!!!5))))))))", 20);
        fee("!!!!!!!(!5+!5)", 1);
        fee("!!!!!!!(!(5)+!5)", 1);
        fault("fee !!!!!!!(!(5)+!!5)", 18);
    }

    /** What a text with a FAULT left open does not count in the next one. */
    private static void openOnesAreForgotten() {
        for (String broken : new String[] {"fee ((((((((", "fee (((((((((", "fee !!!!!!!!", "fee !!!!!!!!!", "fee !(!(!(", "fee ((1", "rise !t !"}) {
            RoadSorted x = new RoadSorted();
            Due.holds("a fault in '" + broken + "'", Due.text(x, broken) <= -100);
            Due.due("eight ( behind '" + broken + "'", Due.text(x, "fee ((((((((3))))))))"), 0);
            Due.due("fee()", x.fee(), 3);
            Due.due("eight ! behind '" + broken + "'", Due.text(x, "fee !!!!!!!!3"), 1);
            Due.due("fee()", x.fee(), 1);
            Due.due("NUMBERS and NAMES", x.textTold(1, 1), 1);
            Due.due("nine ( behind '" + broken + "'", Due.text(x, "fee (((((((((3)))))))))"), -112);
            Due.due("nine ! behind '" + broken + "'", Due.text(x, "fee !!!!!!!!!3"), -112);
        }
    }

    /** "TEST: SUM [ (< | = | >) SUM ]": one of these signs at the most, but in each TEST. */
    private static void oneTestAlone() {
        for (char a : "<=>".toCharArray()) {
            for (char b : "<=>".toCharArray()) {
                fault("fee 1" + a + "1" + b + "1", 7);
                Due.due("two tests with &", read("fee 1" + a + "1&1" + b + "1"), 0);
                Due.due("two tests with |", read("fee 1" + a + "1|1" + b + "1"), 0);
                Due.due("a test in brackets", read("fee (1" + a + "1)" + b + "1"), 0);
                Due.due("a test in brackets", read("fee 1" + a + "(1" + b + "1)"), 0);
                fault("fee 1" + a + b + "1", 6);
            }
        }
        fault("fee 1<1+1<1", 9);
        fault("fee 1<1*1<1", 9);
        fault("fee 1&1<1<1", 9);
    }

    /** "Ints wrap; / is 0 by 0; tests, & | ! give 1 or 0", "/ cuts towards 0". */
    private static void whatIsWorkedOut() {
        fee("1/0", 0);
        fee("0/0", 0);
        fee("(0-9999)/0", 0);
        fee("1/(1-1)+5", 5);
        fee("(0-1)/2", 0);
        fee("(0-3)/2", -1);
        fee("3/(0-2)", -1);
        fee("8192*8192*32", MIN);
        fee("8192*8192*32-1", MAX);
        fee("8192*8192*32/(0-1)", MIN);
        fee("0-8192*8192*32", MIN);
        fee("(8192*8192*32-1)+1", MIN);
        fee("8192*8192*32<8192*8192*32-1", 1);
        fee("!(0-1)", 0);
        fee("!!(0-1)", 1);
        fee("(0-1)&(0-2)", 1);
        fee("(0-1)|0", 1);
        fee("0&1/0", 0);
        fee("1|1/0", 1);
        fee("1-1-1", -1);
        fee("16/4/2", 2);
        fee("16/4*2", 8);
        fee("!1=0", 1);
        fee("!0+!0", 2);
        fee("1+1=2&2>1|0", 1);
    }

    private static void textTold() {
        Edge.refused(State.NEW, BAD, "textTold", 0, 0);
        Edge.within(State.SOME, "textTold", 0, 0, 2, 0, 0);
        Edge.within(State.SOME, "textTold", 1, 0, 1, 1, 0);
        Edge.within(State.MOST, "textTold", 0, 0, 13, 0, 1);
        Edge.tells(State.SOME, 1, "textTold", 0, 0);
        Edge.tells(State.SOME, 2, "textTold", 1, 0);
        Edge.tells(State.SOME, 0, "textTold", 2, 0);
        Edge.tells(State.SOME, 2, "textTold", 2, 1);
        Edge.refused(State.SOME, BAD, "textTold", 3, 2);
        RoadSorted x = new RoadSorted();
        Due.text(x, "fee " + "1" + "+1".repeat(45));
        Due.due("NUMBERS at most", x.textTold(0, 1), 46);
        Due.text(x, "fee m");
        Due.due("NAMES at least", x.textTold(1, 1), 1);
    }

    /** Promise 28: "BAD; NONE"; "that TEXT counts that was told last". */
    private static void why() {
        for (State s : State.values()) {
            for (int v : new int[] {MIN, -1, 3, MAX}) {
                Edge.refused(s, BAD, "why", v);
            }
        }
        for (State s : List.of(State.NEW, State.LAST)) {
            for (int key = 0; key < 3; key++) {
                Edge.refused(s, NONE, "why", key);
            }
        }
        Edge.tells(State.SOME, 2, "why", 0);
        Edge.tells(State.SOME, 0, "why", 1);
        Edge.tells(State.SOME, 1, "why", 2);
        Edge.tells(State.MOST, 13, "why", 0);
        Edge.tells(State.MOST, 12, "why", 1);
        Edge.tells(State.MOST, 11, "why", 2);
    }
}
