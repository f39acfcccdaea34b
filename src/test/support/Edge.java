import java.util.ArrayList;
import java.util.EnumMap;
import java.util.List;
import java.util.Map;
import java.util.function.Consumer;

/** Calls at the edges of what the document takes: what they answer, and all that can be seen behind them. */
final class Edge {
    private static final int MIN = Integer.MIN_VALUE, MAX = Integer.MAX_VALUE;
    private static final int HIGHEST_REFUSAL = RoadSorted.BAD;
    private static final Map<State, List<String>> UNTOUCHED = new EnumMap<>(State.class);

    private Edge() {
    }

    /** It answers that, and nothing at all is otherwise then. */
    static void refused(State state, int want, String name, int... numbers) {
        String call = state + ": " + Calls.told(name, numbers);
        Due.due(call, state.made(false).call(name, numbers), want);
        if (!UNTOUCHED.containsKey(state)) {
            UNTOUCHED.put(state, seen(false, state, true, x -> { }));
        }
        same(call + " changes nothing", seen(false, state, true, x -> x.call(name, numbers)), UNTOUCHED.get(state));
    }

    /** As a refused one: it tells something and changes nothing. */
    static void tells(State state, int want, String name, int... numbers) {
        refused(state, want, name, numbers);
    }

    /** It answers that, and uses up the tape (or the numbers that wait) and no more. */
    static void refusedBut(State state, int want, String name, int... numbers) {
        String call = state + ": " + Calls.told(name, numbers);
        Due.due(call, state.made(false).call(name, numbers), want);
        boolean isText = name.equals("text");
        Consumer<Calls> usedUp = isText ? x -> x.call("trim", 0) : x -> { };
        same(call + " changes no more", seen(false, state, true, x -> x.call(name, numbers)), seen(false, state, isText, usedUp));
    }

    /** It answers that, and all is then as the document's model has it. */
    static void does(State state, int want, String name, int... numbers) {
        String call = state + ": " + Calls.told(name, numbers);
        Due.due(call, state.made(false).call(name, numbers), want);
        Due.due(call + " of the model", state.made(true).call(name, numbers), want);
        Consumer<Calls> act = x -> x.call(name, numbers);
        same(call, seen(false, state, true, act), seen(true, state, true, act));
    }

    /** One of its numbers at its bounds: BAD right beyond them, taken right within them. */
    static void within(State state, String name, int which, int least, int most, int... numbers) {
        for (int v : new int[] {MIN, least - 1, most + 1, MAX}) {
            refused(state, RoadSorted.BAD, name, with(numbers, which, v));
        }
        for (int v : new int[] {least, most}) {
            int[] taken = with(numbers, which, v);
            int answer = state.made(true).call(name, taken);
            Due.holds(state + ": " + Calls.told(name, taken) + " is taken", answer > HIGHEST_REFUSAL);
            does(state, answer, name, taken);
        }
    }

    private static int[] with(int[] numbers, int which, int v) {
        int[] changed = numbers.clone();
        changed[which] = v;
        return changed;
    }

    private static void same(String call, List<String> got, List<String> want) {
        for (int i = 0; i < Math.max(got.size(), want.size()); i++) {
            String g = i < got.size() ? got.get(i) : "nothing";
            String w = i < want.size() ? want.get(i) : "nothing";
            if (!g.equals(w)) {
                Due.holds(call + ": then " + g + ", due is " + w, false);
                return;
            }
        }
        Due.holds(call, true);
    }

    /** All that can be seen behind an act; each look has an object of its own, since looking changes some things. */
    private static List<String> seen(boolean ofModel, State state, boolean tells, Consumer<Calls> act) {
        List<String> rows = new ArrayList<>();
        List<Consumer<Look>> looks = List.of(Edge::bagAndTexts, Edge::slotsAndSheets, Edge::tapeAndImage);
        for (Consumer<Look> look : looks) {
            Calls x = state.made(ofModel, tells);
            act.accept(x);
            look.accept(new Look(x, rows));
        }
        return rows;
    }

    /** Calls of which the answers are told in rows. */
    private static final class Look {
        private final Calls x;
        private final List<String> rows;

        Look(Calls x, List<String> rows) {
            this.x = x;
            this.rows = rows;
        }

        int at(String name, int... numbers) {
            int answer = x.call(name, numbers);
            rows.add(Calls.told(name, numbers) + " is " + answer);
            return answer;
        }
    }

    private static void bagAndTexts(Look look) {
        for (int what = 0; what < 8; what++) {
            look.at("count", what);
        }
        for (int what = 0; what < 5; what++) {
            look.at("bag", what);
        }
        for (int letter = 0; letter < 14; letter++) {
            look.at("at", letter);
            look.at("fine", letter);
            for (int what = 0; what < 8; what++) {
                look.at("told", letter, what);
            }
        }
        for (int text = 0; text < 14; text++) {
            look.at("textTold", text, 0);
            look.at("textTold", text, 1);
        }
        for (int key = 0; key < 3; key++) {
            look.at("why", key);
        }
        look.at("fee");
    }

    private static void slotsAndSheets(Look look) {
        for (int slot = 0; slot < 5; slot++) {
            for (int kind = 0; kind < 6; kind++) {
                look.at("ask", slot, kind);
            }
            look.at("rest", slot, MAX);
            if (look.at("item", slot, 0) != RoadSorted.KIND || look.at("item", slot, 1) != RoadSorted.KIND) {
                places(look, slot);
            }
        }
        for (int sheet = 0; sheet < 4; sheet++) {
            look.at("lay", 0, 2, sheet);
            places(look, 0);
            for (int other = 0; other < 4; other++) {
                look.at("copy", sheet, 0, other, 0, 0);
            }
        }
    }

    private static void places(Look look, int slot) {
        for (int place = 0; place < 25; place++) {
            look.at("item", slot, place);
        }
    }

    /** Back first: the image has room for a text where there is none now. */
    private static void tapeAndImage(Look look) {
        look.at("check", Math.max(1, look.at("count", 5) / 2));
        look.at("back");
        look.at("text");
        bagAndTexts(look);
    }
}
