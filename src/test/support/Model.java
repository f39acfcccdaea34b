import java.util.ArrayList;
import java.util.Collections;
import java.util.HashSet;
import java.util.LinkedHashMap;
import java.util.List;
import java.util.Map;
import java.util.function.ToIntFunction;

/**
 * The document once more, as plainly as the Java library lets it be said and in other ways than the class has:
 * kinds are classes, a bag is a list, a text is split where it is loosest. The class is run against it by lot.
 */
final class Model {
    static final int BAD = -1000000001, NO = -1000000002, FULL = -1000000003, NONE = -1000000005;
    static final int NOTHING = -1000000011, KIND = -1000000012, INDEX = -1000000013, SIZE = -1000000014;

    static class Letter implements Cloneable {
        int number, thick, town, moved;

        int rises(int given) {
            return Math.min(999, Math.max(0, given));
        }

        int grips() {
            return 2;
        }

        int worth() {
            return thick;
        }

        Letter twin() {
            try {
                return (Letter) clone();
            } catch (CloneNotSupportedException e) {
                throw new IllegalStateException(e);
            }
        }
    }

    static class Silk extends Letter {
        @Override int rises(int given) {
            return Math.max(0, super.rises(given) - 20);
        }

        @Override int grips() {
            return 0;
        }

        @Override int worth() {
            return super.worth() + 7;
        }
    }

    static class Wet extends Letter {
        @Override int rises(int given) {
            return Math.max(0, super.rises(given) - 5);
        }

        @Override int grips() {
            return super.grips() + 8;
        }

        @Override int worth() {
            return 99 - thick;
        }
    }

    static final class Bank extends Silk {
        @Override int rises(int given) {
            return super.rises(given) / 2;
        }

        @Override int grips() {
            return super.grips() + 4;
        }

        @Override int worth() {
            return 2 * super.worth();
        }
    }

    static final class Sodden extends Wet {
        @Override int rises(int given) {
            return 0;
        }

        @Override int grips() {
            return 2 * super.grips();
        }

        @Override int worth() {
            return super.worth() - 6;
        }
    }

    static final class Hollow extends Letter {
        @Override int rises(int given) {
            return 2 * super.rises(given);
        }

        @Override int grips() {
            return super.grips() - 1;
        }

        @Override int worth() {
            return 2;
        }
    }

    static final List<Class<? extends Letter>> KINDS =
            List.of(Letter.class, Silk.class, Wet.class, Bank.class, Sodden.class, Hollow.class);

    static Letter made(int kind, int number, int thick, int town, int moved) {
        Letter[] fresh = {new Letter(), new Silk(), new Wet(), new Bank(), new Sodden(), new Hollow()};
        Letter made = fresh[kind];
        made.number = number;
        made.thick = thick;
        made.town = town;
        made.moved = moved;
        return made;
    }

    /** All that an image keeps. */
    static final class World {
        List<Letter> bag = new ArrayList<>();
        List<List<String>> texts = new ArrayList<>();
        int bump, changes, jolt, z = 1;

        World twin() {
            World w = new World();
            for (Letter x : bag) {
                w.bag.add(x.twin());
            }
            w.texts.addAll(texts);
            w.bump = bump;
            w.changes = changes;
            w.jolt = jolt;
            w.z = z;
            return w;
        }

        int why(String key) {
            for (int i = texts.size() - 1; i >= 0; i--) {
                if (texts.get(i).get(0).equals(key)) {
                    return i;
                }
            }
            return NONE;
        }

        int given(String key, Map<String, Integer> names, int without) {
            int why = why(key);
            return why == NONE ? without : value(texts.get(why).subList(1, texts.get(why).size()), names);
        }

        int rises(Letter x) {
            return x.rises(given("rise", Map.of("t", x.thick, "d", x.town, "m", x.moved), x.thick));
        }

        boolean climbs(Letter upper, Letter lower) {
            return rises(lower) - rises(upper) > upper.grips() + lower.grips();
        }

        int draw() {
            z = (int) (z * 1103515245L + 12345L);
            return (int) ((z & 0xffffffffL) / 256);
        }

        World jolted() {
            for (int p = 0; p + 1 < bag.size(); p++) {
                if (p % 2 == jolt % 2 && climbs(bag.get(p), bag.get(p + 1))) {
                    Collections.swap(bag, p, p + 1);
                    changes++;
                    bag.get(p).moved++;
                    bag.get(p + 1).moved++;
                }
            }
            if (!bag.isEmpty() && draw() % 100 < bump) {
                bag.add(0, bag.remove(draw() % bag.size()));
            }
            jolt++;
            return this;
        }

        World behind(int n) {
            World w = twin();
            for (int i = 0; i < n; i++) {
                w.jolted();
            }
            return w;
        }

        int mess() {
            int mess = 0;
            for (int lower = 1; lower < bag.size(); lower++) {
                for (int upper = 0; upper < lower; upper++) {
                    mess += rises(bag.get(lower)) > rises(bag.get(upper)) ? 1 : 0;
                }
            }
            return mess;
        }

        int climbers() {
            int climbers = 0;
            for (int p = 0; p + 1 < bag.size(); p++) {
                climbers += climbs(bag.get(p), bag.get(p + 1)) ? 1 : 0;
            }
            return climbers;
        }

        Letter letter(int number) {
            for (Letter x : bag) {
                if (x.number == number) {
                    return x;
                }
            }
            return null;
        }

        int place(int number) {
            return bag.indexOf(letter(number));
        }
    }

    private static final String[] LOOSEST_FIRST = {"|", "&", "<=>", "+-", "*/"};

    /** Splits at the last sign of the loosest sort that stands in no brackets. */
    static int value(List<String> e, Map<String, Integer> names) {
        for (String signs : LOOSEST_FIRST) {
            int open = 0;
            for (int i = e.size() - 1; i > 0; i--) {
                String s = e.get(i);
                open += s.equals(")") ? 1 : s.equals("(") ? -1 : 0;
                if (open == 0 && signs.contains(s)) {
                    return joined(s, value(e.subList(0, i), names), value(e.subList(i + 1, e.size()), names));
                }
            }
        }
        String first = e.get(0);
        if (first.equals("!")) {
            return value(e.subList(1, e.size()), names) == 0 ? 1 : 0;
        }
        if (first.equals("(")) {
            return value(e.subList(1, e.size() - 1), names);
        }
        return names.containsKey(first) ? names.get(first) : Integer.parseInt(first);
    }

    static int joined(String sign, int a, int b) {
        boolean test;
        switch (sign) {
            case "+": return a + b;
            case "-": return a - b;
            case "*": return a * b;
            case "/": return b == 0 ? 0 : (int) ((long) a / b);
            case "|": test = a != 0 | b != 0; break;
            case "&": test = a != 0 & b != 0; break;
            case "<": test = a < b; break;
            case "=": test = a == b; break;
            default: test = a > b; break;
        }
        return test ? 1 : 0;
    }

    private static final Map<String, String> NAMES = new LinkedHashMap<>();

    static {
        NAMES.put("rise", "tdm");
        NAMES.put("fee", "mj");
        NAMES.put("fine", "tp");
    }

    /** Words and signs of the tape come to the list; the place of the fault, or -1. */
    static int fault(String tape, List<String> words) {
        List<String> open = new ArrayList<>();
        List<Boolean> tested = new ArrayList<>(List.of(false));
        boolean wantsPiece = true;
        int wordEnd = -1;
        int p = 0;
        while (true) {
            while (p < tape.length() && tape.charAt(p) == ' ') {
                p++;
            }
            if (p == tape.length()) {
                boolean whole = !words.isEmpty() && !wantsPiece && !open.contains("(");
                return whole ? -1 : p;
            }
            String rest = tape.substring(p);
            boolean isWord = rest.matches("(?s)[a-z0-9].*");
            String s = rest.replaceAll("(?s)^([a-z]+|[0-9]+|.).*$", "$1");
            if (isWord && p == wordEnd) {
                return p;
            }
            if (words.isEmpty()) {
                if (!NAMES.containsKey(s)) {
                    return p;
                }
            } else if (wantsPiece) {
                if (s.equals("(") || s.equals("!")) {
                    if (Collections.frequency(open, s) == 8) {
                        return p;
                    }
                    open.add(s);
                    if (s.equals("(")) {
                        tested.add(false);
                    }
                } else if (s.matches("[0-9]{1,4}") || s.length() == 1 && NAMES.get(words.get(0)).contains(s)) {
                    wantsPiece = false;
                    closeNots(open);
                } else {
                    return p;
                }
            } else if (s.equals(")") && open.contains("(")) {
                open.remove(open.size() - 1);
                tested.remove(tested.size() - 1);
                closeNots(open);
            } else if (s.matches("[-|&<=>+*/]")) {
                int last = tested.size() - 1;
                if (s.matches("[<=>]")) {
                    if (tested.get(last)) {
                        return p;
                    }
                    tested.set(last, true);
                } else if (s.matches("[|&]")) {
                    tested.set(last, false);
                }
                wantsPiece = true;
            } else {
                return p;
            }
            words.add(s);
            p += s.length();
            wordEnd = isWord ? p : -1;
        }
    }

    private static void closeNots(List<String> open) {
        while (!open.isEmpty() && open.get(open.size() - 1).equals("!")) {
            open.remove(open.size() - 1);
        }
    }

    /** A place that is null is no number. */
    static final class Row {
        int sort;
        List<Integer> places;

        Row(int sort, List<Integer> places) {
            this.sort = sort;
            this.places = new ArrayList<>(places);
        }
    }

    private World now = new World();
    private World image = null;
    private String tape = "";
    private final Row[] sheets = new Row[4];
    private final Object[] slots = new Object[5];
    private final List<Integer> waiting = new ArrayList<>();

    private static boolean in(int v, int least, int most) {
        return least <= v && v <= most;
    }

    private boolean is(int letter) {
        return in(letter, 0, now.bag.size() - 1);
    }

    public int letter(int kind, int thick, int town) {
        if (!in(kind, 0, 5) || !in(thick, 1, 99) || !in(town, 0, 9)) return BAD;
        if (now.bag.size() == 14) return FULL;
        int number = now.bag.size();
        now.bag.add(made(kind, number, thick, town, 0));
        return number;
    }

    public int told(int letter, int what) {
        if (!is(letter) || !in(what, 0, 7)) return BAD;
        Letter x = now.letter(letter);
        List<ToIntFunction<Letter>> answers = List.of(y -> KINDS.indexOf(y.getClass()), y -> y.thick, y -> y.town,
                y -> now.bag.indexOf(y), y -> y.moved, y -> now.rises(y), Letter::grips, Letter::worth);
        return answers.get(what).applyAsInt(x);
    }

    public int as(int letter, int kind) {
        if (!is(letter) || !in(kind, 0, 5)) return BAD;
        Letter x = now.letter(letter);
        return KINDS.get(kind).isInstance(x) ? x.thick : KIND;
    }

    public int turns(int letter, int kind) {
        if (!is(letter) || !in(kind, 0, 5)) return BAD;
        Letter x = now.letter(letter);
        now.bag.set(now.place(letter), made(kind, letter, x.thick, x.town, x.moved));
        return KINDS.indexOf(x.getClass());
    }

    public int set(int letter, int what, int v) {
        if (!is(letter) || !in(what, 1, 2) || !in(v, what == 1 ? 1 : 0, what == 1 ? 99 : 9)) return BAD;
        Letter x = now.letter(letter);
        int was = what == 1 ? x.thick : x.town;
        if (what == 1) x.thick = v;
        if (what == 2) x.town = v;
        return was;
    }

    public int puts(int letter, int place) {
        if (!is(letter) || !is(place)) return BAD;
        int was = now.place(letter);
        now.bag.add(place, now.bag.remove(was));
        return was;
    }

    public int at(int place) {
        return is(place) ? now.bag.get(place).number : BAD;
    }

    public int halt() {
        Collections.reverse(now.bag);
        return now.bag.size();
    }

    public int bump(int v) {
        if (!in(v, 0, 100)) return BAD;
        int was = now.bump;
        now.bump = v;
        return was;
    }

    public int deal(int n) {
        if (!in(n, 1, 14)) return BAD;
        int came = 0;
        while (came < n && now.bag.size() < 14) {
            int kind = now.draw() % 6;
            int thick = 1 + now.draw() % 99;
            letter(kind, thick, now.draw() % 10);
            came++;
        }
        return came;
    }

    public int seed(int v) {
        int was = now.z;
        now.z = v;
        return was;
    }

    public int jolts(int n) {
        if (!in(n, 1, 100)) return BAD;
        int was = now.changes;
        for (int i = 0; i < n && now.jolt < 9999; i++) {
            now.jolted();
        }
        return now.changes - was;
    }

    public int bag(int what) {
        switch (what) {
            case 0: return now.mess();
            case 1:
                int layers = 0;
                int last = -1;
                for (Letter x : now.bag) {
                    layers += x.town == last ? 0 : 1;
                    last = x.town;
                }
                return layers;
            case 2: return now.changes;
            case 3: return now.climbers();
            case 4: return now.bag.stream().mapToInt(x -> x.thick).sum();
            default: return BAD;
        }
    }

    public int behind(int n, int what) {
        if (!in(n, 0, 100) || !in(what, 0, 1 + now.bag.size())) return BAD;
        World w = now.behind(n);
        return what == 0 ? w.mess() : what == 1 ? w.changes : w.bag.get(what - 2).number;
    }

    public int rests() {
        World w = now.twin();
        for (int n = 0; n <= 300; n++) {
            if (w.climbers() == 0) return n;
            w.jolted();
        }
        return NONE;
    }

    public int padding(int letter, int other, int n) {
        if (!is(letter) || !is(other) || letter == other || !in(n, 0, 40)) return BAD;
        for (int thick = now.letter(letter).thick; thick <= 99; thick++) {
            World w = now.twin();
            w.letter(letter).thick = thick;
            World then = w.behind(n);
            if (Math.abs(then.place(letter) - then.place(other)) == 1) return thick - now.letter(letter).thick;
        }
        return NONE;
    }

    public int stays(int n) {
        if (!in(n, 0, 100)) return BAD;
        World w = now.behind(n);
        int set = 0;
        for (int i = 0; i < now.bag.size(); i++) {
            set += w.place(i) == now.place(i) ? 1 << i : 0;
        }
        return set;
    }

    public int bundle(int town, int n) {
        if (!in(town, 0, 9) || !in(n, 0, 100)) return BAD;
        StringBuilder row = new StringBuilder();
        for (Letter x : now.behind(n).bag) {
            row.append(x.town == town ? 'x' : '.');
        }
        return row.toString().matches("\\.*x*\\.*") ? 1 : 0;
    }

    public int halts(int n, int what) {
        if (!in(n, 0, 40) || !in(what, 0, 1)) return BAD;
        int best = -1;
        int least = 1000;
        for (int k = 0; k <= n; k++) {
            World w = now.behind(k);
            Collections.reverse(w.bag);
            int mess = w.behind(n - k).mess();
            if (mess < least) {
                best = k;
                least = mess;
            }
        }
        return what == 0 ? best : least;
    }

    public int miles(int sheet, int what) {
        if (!in(sheet, 0, 3) || !in(what, 0, 1)) return BAD;
        if (sheets[sheet] == null) return NOTHING;
        List<Integer> sums = new ArrayList<>();
        World w = now.twin();
        for (int n = 0; n <= 60; n++) {
            int sum = 0;
            for (int k = 0; k < sheets[sheet].places.size(); k++) {
                Integer v = sheets[sheet].places.get(k);
                if (v != null) sum += Math.abs((k < w.bag.size() ? w.bag.get(k).town : 0) - v);
            }
            sums.add(sum);
            w.jolted();
        }
        int least = Collections.min(sums);
        return what == 0 ? sums.indexOf(least) : least;
    }

    public int fee() {
        return now.given("fee", Map.of("m", now.mess(), "j", now.jolt), now.mess());
    }

    public int fine(int letter) {
        if (!is(letter)) return BAD;
        return now.given("fine", Map.of("t", now.letter(letter).thick, "p", now.place(letter)), now.place(letter));
    }

    public int feed(int a, int b, int c) {
        if (tape.length() > 84) return FULL;
        for (byte x : java.nio.ByteBuffer.allocate(12).putInt(a).putInt(b).putInt(c).array()) {
            tape += (char) (x & 255);
        }
        return tape.length();
    }

    public int trim(int n) {
        if (!in(n, 0, tape.length())) return BAD;
        tape = tape.substring(0, n);
        return n;
    }

    public int text() {
        List<String> words = new ArrayList<>();
        int fault = fault(tape, words);
        tape = "";
        if (fault >= 0) return -100 - fault;
        if (now.texts.size() == 14) return FULL;
        now.texts.add(words);
        return now.texts.size() - 1;
    }

    public int textTold(int text, int what) {
        if (!in(text, 0, now.texts.size() - 1) || !in(what, 0, 1)) return BAD;
        List<String> words = now.texts.get(text);
        if (what == 0) return new ArrayList<>(NAMES.keySet()).indexOf(words.get(0));
        return (int) words.stream().filter(s -> s.matches("[a-z]|[0-9]+")).count();
    }

    public int why(int key) {
        return in(key, 0, 2) ? now.why(new ArrayList<>(NAMES.keySet()).get(key)) : BAD;
    }

    public int sheet(int sheet, int sort, int n) {
        if (!in(sheet, 0, 3) || !in(sort, -1, 1)) return BAD;
        if (sort == -1) {
            sheets[sheet] = null;
            return 0;
        }
        if (n > 24) return BAD;
        if (n < 0) return SIZE;
        sheets[sheet] = new Row(sort, Collections.nCopies(n, 0));
        return n;
    }

    public int mark(int sheet, int place, int v) {
        if (!in(sheet, 0, 3)) return BAD;
        Row row = sheets[sheet];
        if (row == null) return NOTHING;
        if (!in(place, 0, row.places.size() - 1)) return INDEX;
        if (row.sort == 0 && v == NONE) return KIND;
        if (row.sort == 1 && v != NONE && !in(v, -99999, 99999)) return BAD;
        row.places.set(place, row.sort == 0 ? Integer.valueOf(v << 16 >> 16) : v == NONE ? null : Integer.valueOf(v));
        return 1;
    }

    public int pour(int sheet) {
        if (!in(sheet, 0, 3)) return BAD;
        if (sheets[sheet] == null) return NOTHING;
        int otherwise = 0;
        List<Integer> places = sheets[sheet].places;
        for (Letter x : now.bag) {
            Integer v = x.number < places.size() ? places.get(x.number) : null;
            int town = v == null ? x.town : v < 0 ? 0 : v > 9 ? 9 : v;
            otherwise += town == x.town ? 0 : 1;
            x.town = town;
        }
        return otherwise;
    }

    public int reads(int sheet) {
        if (!in(sheet, 0, 3)) return BAD;
        if (sheets[sheet] == null) return NOTHING;
        List<Integer> places = sheets[sheet].places;
        for (int p = 0; p < places.size(); p++) {
            int due = p < now.bag.size() ? now.bag.get(p).number : Integer.MIN_VALUE;
            if (places.get(p) != null && places.get(p) != due) return p;
        }
        return NONE;
    }

    public int copy(int from, int place, int to, int at, int many) {
        if (!in(from, 0, 3) || !in(to, 0, 3)) return BAD;
        Row a = sheets[from];
        Row b = sheets[to];
        if (a == null || b == null) return NOTHING;
        if (a.sort != b.sort) return KIND;
        if (place < 0 || at < 0 || many < 0 || (long) place + many > a.places.size() || (long) at + many > b.places.size()) return INDEX;
        List<Integer> were = new ArrayList<>(a.places.subList(place, place + many));
        for (int i = 0; i < many; i++) {
            b.places.set(at + i, were.get(i));
        }
        return many;
    }

    public int lay(int slot, int thing, int k) {
        if (!in(slot, 0, 4) || !in(thing, 0, 3) || thing == 1 && !is(k) || thing == 2 && !in(k, 0, 3)) return BAD;
        if (thing == 2 && sheets[k] == null) return NOTHING;
        Object was = slots[slot];
        slots[slot] = thing == 0 ? null : thing == 1 ? now.letter(k).twin()
                : thing == 2 ? new Row(sheets[k].sort, sheets[k].places) : (Object) k;
        return was == null ? 0 : was instanceof Letter ? 1 : was instanceof Row ? 2 : 3;
    }

    public int ask(int slot, int kind) {
        if (!in(slot, 0, 4) || !in(kind, 0, 5)) return BAD;
        if (slots[slot] == null) return NOTHING;
        return KINDS.get(kind).isInstance(slots[slot]) ? ((Letter) slots[slot]).worth() : KIND;
    }

    public int item(int slot, int place) {
        if (!in(slot, 0, 4)) return BAD;
        if (slots[slot] == null) return NOTHING;
        if (!(slots[slot] instanceof Row)) return KIND;
        List<Integer> places = ((Row) slots[slot]).places;
        if (!in(place, 0, places.size() - 1)) return INDEX;
        return places.get(place) == null ? KIND : places.get(place);
    }

    public int rest(int slot, int n) {
        if (!in(slot, 0, 4)) return BAD;
        if (slots[slot] == null) return NOTHING;
        if (!(slots[slot] instanceof Integer)) return KIND;
        return n == 0 ? NO : (int) ((long) (Integer) slots[slot] % n);
    }

    public int tell(int v) {
        if (waiting.size() == 60) return FULL;
        waiting.add(v);
        return waiting.size();
    }

    public int check(int n) {
        List<Integer> told = new ArrayList<>(waiting);
        waiting.clear();
        if (!in(n, 1, 30)) return BAD;
        if (image == null) return NO;
        List<Integer> due = due(n);
        int right = 0;
        while (right < told.size() && right < due.size() && told.get(right).equals(due.get(right))) {
            right++;
        }
        return told.equals(due) ? 0 : 1 + right;
    }

    /** THE JOLTS TOLD, by which a test can tell what is right. */
    List<Integer> due(int n) {
        List<Integer> due = new ArrayList<>();
        World w = image == null ? new World() : image.twin();
        for (int i = 0; i < n && w.jolt < 9999; i++) {
            w.jolted();
            due.add(w.bag.isEmpty() ? 0 : w.bag.get(0).thick);
            due.add(w.changes);
        }
        return due;
    }

    public int keep() {
        image = now.twin();
        return now.bag.size();
    }

    public int back() {
        if (image == null) return NO;
        now = image.twin();
        return now.bag.size();
    }

    public int count(int what) {
        switch (what) {
            case 0: return now.bag.size();
            case 1: return now.jolt;
            case 2: return now.bump;
            case 3:
                HashSet<Integer> towns = new HashSet<>();
                now.bag.forEach(x -> towns.add(x.town));
                return towns.size();
            case 4: return now.texts.size();
            case 5: return waiting.size();
            case 6: return tape.length();
            case 7: return now.z;
            default: return BAD;
        }
    }
}
