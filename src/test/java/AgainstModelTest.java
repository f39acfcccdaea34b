import java.lang.reflect.Method;
import java.util.ArrayList;
import java.util.Arrays;
import java.util.HashMap;
import java.util.List;
import java.util.Map;
import java.util.Random;

/** Runs of calls by lot (the same ones each time): the class and the model of the document answer alike. */
public final class AgainstModelTest {
    private static final int RUNS = 500, CALLS = 440;

    /** For each call how often it comes, and what its numbers are of. */
    private static final String[] CALL_KINDS = {
        "4 letter kind thick town", "6 told letter what7", "2 as letter kind", "4 turns letter kind", "4 set letter what2 thickTown",
        "4 puts letter letter", "4 at letter", "2 halt", "2 bump percent", "1 deal letters", "2 seed any", "8 jolts jolts",
        "6 bag what4", "6 behind n100 what15", "3 rests", "1 padding letter letter n40", "3 stays n100", "3 bundle town n100",
        "1 halts n40 what1", "3 miles sheet what1", "4 fee", "4 fine letter", "1 feed any any any", "1 trim bytes", "1 text",
        "3 textTold letter what1", "3 why what2", "2 sheet sheet sort places", "6 mark sheet place v", "2 pour sheet", "3 reads sheet",
        "3 copy sheet place sheet place many", "4 lay slot what3 k", "4 ask slot kind", "6 item slot place", "3 rest slot v",
        "2 tell v", "1 check n30", "1 keep", "1 back", "6 count what7"};

    private final Random lot;
    private final RoadSorted real = new RoadSorted();
    private final Model model = new Model();
    private final List<String> told = new ArrayList<>();
    private static final Map<String, Method[]> METHODS = new HashMap<>();
    private static final List<String[]> CHOICES = new ArrayList<>();

    private AgainstModelTest(long seed) {
        lot = new Random(seed);
    }

    public static void main(String[] args) throws Exception {
        for (Method m : RoadSorted.class.getDeclaredMethods()) {
            if (java.lang.reflect.Modifier.isPublic(m.getModifiers())) {
                METHODS.put(m.getName(), new Method[] {m, Model.class.getMethod(m.getName(), m.getParameterTypes())});
                METHODS.get(m.getName())[1].setAccessible(true);
            }
        }
        for (String kind : CALL_KINDS) {
            String[] words = kind.split(" ");
            for (int i = 0; i < Integer.parseInt(words[0]); i++) {
                CHOICES.add(Arrays.copyOfRange(words, 1, words.length));
            }
        }
        Due.due("calls that are drawn", CALL_KINDS.length, METHODS.size());
        for (int run = 0; run < RUNS; run++) {
            if (!new AgainstModelTest(run).isRight()) {
                break;
            }
        }
        Due.end();
    }

    private boolean isRight() throws Exception {
        boolean right = true;
        if (lot.nextInt(4) > 0) {
            right = call("seed", lot.nextInt()) && call("deal", 1 + lot.nextInt(14));
        }
        if (lot.nextInt(20) == 0) {
            for (int i = 0; right && i < 99; i++) {
                right = call("jolts", 100);
            }
            right = right && call("jolts", 60 + lot.nextInt(40));
        }
        while (right && told.size() < CALLS) {
            int choice = lot.nextInt(CHOICES.size() + 8);
            if (choice < CHOICES.size()) {
                String[] words = CHOICES.get(choice);
                int[] numbers = new int[words.length - 1];
                for (int i = 0; i < numbers.length; i++) {
                    numbers[i] = number(words[1 + i]);
                }
                right = call(words[0], numbers);
            } else {
                right = choice < CHOICES.size() + 6 ? textByLot() : checkByLot();
            }
        }
        return right;
    }

    private boolean call(String name, int... numbers) throws Exception {
        Object[] args = new Object[numbers.length];
        for (int i = 0; i < args.length; i++) {
            args[i] = numbers[i];
        }
        Method[] both = METHODS.get(name);
        int got = (Integer) both[0].invoke(real, args);
        int want = (Integer) both[1].invoke(model, args);
        told.add(name + Arrays.toString(numbers) + " " + want);
        if (got != want) {
            told.forEach(System.out::println);
        }
        Due.due(name + Arrays.toString(numbers), got, want);
        return got == want;
    }

    private int of(int least, int most) {
        int roll = lot.nextInt(40);
        if (roll == 0) {
            return lot.nextBoolean() ? least - 1 : most + 1;
        }
        if (roll < 4) {
            return lot.nextBoolean() ? least : most;
        }
        return least + lot.nextInt(most - least + 1);
    }

    private int any() {
        int[] edges = {0, 1, -1, Integer.MIN_VALUE, Integer.MAX_VALUE, Model.NONE, Model.BAD, 65536};
        return lot.nextInt(3) == 0 ? lot.nextInt() : edges[lot.nextInt(edges.length)];
    }

    private int number(String of) {
        if (lot.nextInt(150) == 0) {
            return any();
        }
        if (of.startsWith("what")) {
            return of(0, Integer.parseInt(of.substring(4)));
        }
        switch (of) {
            case "letter": return lot.nextInt(20) == 0 ? of(0, 13) : of(0, Math.max(0, model.count(0) - 1));
            case "kind": return of(0, 5);
            case "thick": return of(1, 99);
            case "town": return of(0, 9);
            case "thickTown": return lot.nextBoolean() ? of(0, 9) : of(1, 99);
            case "percent": return of(0, 100);
            case "letters": return of(1, 14);
            case "jolts": return lot.nextInt(3) > 0 ? of(1, 5) : of(1, 100);
            case "n100": return lot.nextInt(3) > 0 ? of(0, 9) : of(0, 100);
            case "n40": return of(0, 40);
            case "n30": return of(1, 30);
            case "bytes": return of(0, Math.max(0, model.count(6)));
            case "sheet": return of(0, 3);
            case "sort": return lot.nextInt(8) == 0 ? -1 : of(0, 1);
            case "places": return of(0, 24);
            case "place": return lot.nextBoolean() ? of(0, 5) : of(0, 24);
            case "many": return of(0, 12);
            case "slot": return of(0, 4);
            case "k": return lot.nextInt(4) == 0 ? any() : of(0, 13);
            case "v": return lot.nextInt(6) == 0 ? Model.NONE : lot.nextInt(5) == 0 ? lot.nextInt(300000) - 150000 : of(-3, 14);
            default: return any();
        }
    }

    private boolean checkByLot() throws Exception {
        int n = 1 + lot.nextInt(30);
        if (lot.nextInt(4) > 0 && !call("check", n)) {
            return false;
        }
        List<Integer> due = model.due(n);
        int wrong = lot.nextInt(2) == 0 ? lot.nextInt(62) : -1;
        int many = lot.nextInt(3) == 0 ? Math.max(0, due.size() - 1 + lot.nextInt(3)) : due.size();
        for (int i = 0; i < many; i++) {
            int v = i < due.size() ? due.get(i) : 0;
            if (!call("tell", i == wrong ? v + 1 : v)) {
                return false;
            }
        }
        return call("check", n);
    }

    private boolean textByLot() throws Exception {
        String key = new String[] {"rise", "fee", "fine"}[lot.nextInt(3)];
        String names = key.equals("rise") ? "tdm" : key.equals("fee") ? "mj" : "tp";
        StringBuilder text = new StringBuilder(key).append(lot.nextInt(12) == 0 ? "" : " ");
        chain(text, names, 0, lot.nextInt(12));
        while (lot.nextInt(3) == 0 && text.length() > 0) {
            spoil(text);
        }
        text.setLength(Math.min(text.length(), lot.nextInt(6) == 0 ? lot.nextInt(96) : 96));
        boolean right = lot.nextInt(10) == 0 || call("trim", 0);
        int from = model.count(6);
        int length = Math.min(96, from + text.length());
        while (text.length() % 12 != 0) {
            text.append(' ');
        }
        for (int i = 0; right && i < text.length(); i += 12) {
            right = call("feed", four(text, i), four(text, i + 4), four(text, i + 8));
        }
        return right && (lot.nextInt(4) == 0 || call("trim", Math.min(length, model.count(6)))) && call("text");
    }

    private static int four(StringBuilder text, int i) {
        return text.charAt(i) << 24 | text.charAt(i + 1) << 16 | text.charAt(i + 2) << 8 | text.charAt(i + 3);
    }

    private void blanks(StringBuilder text) {
        if (lot.nextInt(6) == 0) {
            text.append(lot.nextBoolean() ? " " : "  ");
        }
    }

    private int chain(StringBuilder text, String names, int level, int left) {
        String[] signs = {"|", "&", "<=>", "+-", "*/"};
        if (level == signs.length) {
            return piece(text, names, left);
        }
        left = chain(text, names, level + 1, left);
        for (int i = 0; i < (level == 2 ? 1 : 3) && left > 0 && lot.nextInt(3) == 0; i++) {
            blanks(text);
            text.append(signs[level].charAt(lot.nextInt(signs[level].length())));
            blanks(text);
            left = chain(text, names, level + 1, left - 1);
        }
        return left;
    }

    private int piece(StringBuilder text, String names, int left) {
        int roll = lot.nextInt(12);
        if (roll < 5) {
            text.append(names.charAt(lot.nextInt(names.length())));
            return left - 1;
        }
        if (roll < 9 || left <= 0) {
            text.append(lot.nextInt(3) == 0 ? lot.nextInt(10000) : lot.nextInt(100));
            return left - 1;
        }
        int many = lot.nextInt(8) == 0 ? 7 + lot.nextInt(3) : 1;
        if (roll == 9) {
            text.append("!".repeat(many));
            blanks(text);
            return piece(text, names, left - 1);
        }
        text.append("(".repeat(many));
        left = chain(text, names, 0, left - 1);
        text.append(")".repeat(many));
        return left;
    }

    private void spoil(StringBuilder text) {
        int at = lot.nextInt(text.length());
        String signs = "tdmjp0123456789!()<=>+-*/&|  risefenA~\t";
        char sign = lot.nextInt(8) == 0 ? (char) lot.nextInt(256) : signs.charAt(lot.nextInt(signs.length()));
        switch (lot.nextInt(3)) {
            case 0: text.deleteCharAt(at); break;
            case 1: text.insert(at, sign); break;
            default: text.setCharAt(at, sign); break;
        }
    }
}
