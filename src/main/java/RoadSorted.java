import java.util.Arrays;

/** Letters in one bag, sorted by the jolts of the road. ../shared/DOC.md says what every call answers. */
public final class RoadSorted {
    public static final int BAD = -1000000001, NO = -1000000002, FULL = -1000000003, NONE = -1000000005,
            NOTHING = -1000000011, KIND = -1000000012, INDEX = -1000000013, SIZE = -1000000014;

    private static final int MOST_LETTERS = 14, MOST_KIND = 5, MOST_THICK = 99, MOST_TOWN = 9, MOST_BUMP = 100;
    private static final int MOST_JOLT = 9999, MOST_JOLTS = 100, MOST_REST = 300, MOST_MILES = 60;
    private static final int MOST_PADDING_JOLTS = 40, MOST_HALT_JOLTS = 40, MOST_CHECK_JOLTS = 30;
    private static final int MOST_TEXTS = 14, MOST_WAITING = 60, SHEETS = 4, SLOTS = 5;
    private static final int HOLDS_NOTHING = 0, HOLDS_LETTER = 1, HOLDS_SHEET = 2, HOLDS_NUMBER = 3;

    private final Bag bag = new Bag();
    private final Bag image = new Bag();
    // What is only thought happens in these two, so that no call needs a new bag.
    private final Bag thought = new Bag();
    private final Bag branch = new Bag();
    private boolean imageKept = false;

    private final Law[] laws = new Law[MOST_TEXTS];
    private int lawCount = 0;
    // Laws are only ever added behind those of the image, so their number is all that it must keep of them.
    private int imageLawCount = 0;

    private final Tape tape = new Tape();
    private final Reader reader = new Reader(tape);
    private final Sheet[] sheets = new Sheet[SHEETS];
    private final Slot[] slots = new Slot[SLOTS];
    private final int[] waiting = new int[MOST_WAITING];
    private int waitingCount = 0;

    public RoadSorted() {
        for (int i = 0; i < SHEETS; i++) {
            sheets[i] = new Sheet();
        }
        for (int i = 0; i < SLOTS; i++) {
            slots[i] = new Slot();
        }
    }

    // ---- letters

    public int letter(int kind, int thick, int town) {
        if (!isKind(kind) || !isThick(thick) || !isTown(town)) {
            return BAD;
        }
        if (bag.count == MOST_LETTERS) {
            return FULL;
        }
        return bag.add(kind, thick, town);
    }

    public int told(int letter, int what) {
        if (!bag.has(letter)) {
            return BAD;
        }
        switch (what) {
            case 0: return bag.kind[letter];
            case 1: return bag.thick[letter];
            case 2: return bag.town[letter];
            case 3: return bag.placeOf(letter);
            case 4: return bag.moved[letter];
            case 5: return bag.rises[letter];
            case 6: return Kinds.grips(bag.kind[letter]);
            case 7: return Kinds.worth(bag.kind[letter], bag.thick[letter]);
            default: return BAD;
        }
    }

    public int as(int letter, int kind) {
        if (!bag.has(letter) || !isKind(kind)) {
            return BAD;
        }
        return Kinds.isOf(bag.kind[letter], kind) ? bag.thick[letter] : KIND;
    }

    public int turns(int letter, int kind) {
        if (!bag.has(letter) || !isKind(kind)) {
            return BAD;
        }
        int was = bag.kind[letter];
        bag.become(letter, kind, bag.thick[letter], bag.town[letter]);
        return was;
    }

    public int set(int letter, int what, int v) {
        if (!bag.has(letter)) {
            return BAD;
        }
        int thick = bag.thick[letter];
        int town = bag.town[letter];
        if (what == 1 && isThick(v)) {
            bag.become(letter, bag.kind[letter], v, town);
            return thick;
        }
        if (what == 2 && isTown(v)) {
            bag.become(letter, bag.kind[letter], thick, v);
            return town;
        }
        return BAD;
    }

    public int puts(int letter, int place) {
        if (!bag.has(letter) || !bag.has(place)) {
            return BAD;
        }
        int was = bag.placeOf(letter);
        bag.move(was, place);
        return was;
    }

    public int at(int place) {
        return bag.has(place) ? bag.order[place] : BAD;
    }

    public int halt() {
        bag.turnOver();
        return bag.count;
    }

    public int bump(int v) {
        if (!isWithin(v, 0, MOST_BUMP)) {
            return BAD;
        }
        int was = bag.bump;
        bag.bump = v;
        return was;
    }

    public int deal(int n) {
        if (!isWithin(n, 1, MOST_LETTERS)) {
            return BAD;
        }
        int come = Math.min(n, MOST_LETTERS - bag.count);
        for (int i = 0; i < come; i++) {
            int kind = bag.draw() % (MOST_KIND + 1);
            int thick = 1 + bag.draw() % MOST_THICK;
            int town = bag.draw() % (MOST_TOWN + 1);
            bag.add(kind, thick, town);
        }
        return come;
    }

    public int seed(int v) {
        int was = bag.z;
        bag.z = v;
        return was;
    }

    // ---- jolts

    public int jolts(int n) {
        if (!isWithin(n, 1, MOST_JOLTS)) {
            return BAD;
        }
        int before = bag.changes;
        bag.ride(Math.min(n, MOST_JOLT - bag.jolt));
        return bag.changes - before;
    }

    public int bag(int what) {
        switch (what) {
            case 0: return bag.mess();
            case 1: return bag.layers();
            case 2: return bag.changes;
            case 3: return bag.climbers();
            case 4: return bag.thickOfAll();
            default: return BAD;
        }
    }

    // ---- what will be

    public int behind(int n, int what) {
        if (!isWithin(n, 0, MOST_JOLTS) || !isWithin(what, 0, 1 + bag.count)) {
            return BAD;
        }
        think(n);
        switch (what) {
            case 0: return thought.mess();
            case 1: return thought.changes;
            default: return thought.order[what - 2];
        }
    }

    public int rests() {
        think(0);
        for (int n = 0; n <= MOST_REST; n++) {
            if (thought.climbers() == 0) {
                return n;
            }
            thought.joltOnce();
        }
        return NONE;
    }

    public int padding(int letter, int other, int n) {
        if (!bag.has(letter) || !bag.has(other) || letter == other || !isWithin(n, 0, MOST_PADDING_JOLTS)) {
            return BAD;
        }
        int thick = bag.thick[letter];
        for (int more = 0; more <= MOST_THICK - thick; more++) {
            thought.becomeAs(bag);
            thought.become(letter, bag.kind[letter], thick + more, bag.town[letter]);
            thought.ride(n);
            if (Math.abs(thought.placeOf(letter) - thought.placeOf(other)) == 1) {
                return more;
            }
        }
        return NONE;
    }

    public int stays(int n) {
        if (!isWithin(n, 0, MOST_JOLTS)) {
            return BAD;
        }
        think(n);
        int set = 0;
        for (int place = 0; place < bag.count; place++) {
            if (thought.order[place] == bag.order[place]) {
                set |= 1 << bag.order[place];
            }
        }
        return set;
    }

    public int bundle(int town, int n) {
        if (!isTown(town) || !isWithin(n, 0, MOST_JOLTS)) {
            return BAD;
        }
        think(n);
        return thought.rowsOf(town) <= 1 ? 1 : 0;
    }

    public int halts(int n, int what) {
        if (!isWithin(n, 0, MOST_HALT_JOLTS) || !isWithin(what, 0, 1)) {
            return BAD;
        }
        int best = 0;
        int least = 0;
        think(0);
        for (int k = 0; k <= n; k++) {
            branch.becomeAs(thought);
            branch.turnOver();
            branch.ride(n - k);
            int mess = branch.mess();
            if (k == 0 || mess < least) {
                best = k;
                least = mess;
            }
            thought.joltOnce();
        }
        return what == 0 ? best : least;
    }

    public int miles(int sheet, int what) {
        if (!isSheet(sheet) || !isWithin(what, 0, 1)) {
            return BAD;
        }
        if (sheets[sheet].isMissing()) {
            return NOTHING;
        }
        int best = 0;
        int least = 0;
        think(0);
        for (int n = 0; n <= MOST_MILES; n++) {
            int differences = differences(thought, sheets[sheet]);
            if (n == 0 || differences < least) {
                best = n;
                least = differences;
            }
            thought.joltOnce();
        }
        return what == 0 ? best : least;
    }

    public int fee() {
        int mess = bag.mess();
        Law law = lawOf(Law.FEE);
        return law == null ? mess : law.gives(mess, bag.jolt, 0);
    }

    public int fine(int letter) {
        if (!bag.has(letter)) {
            return BAD;
        }
        int place = bag.placeOf(letter);
        Law law = lawOf(Law.FINE);
        return law == null ? place : law.gives(bag.thick[letter], place, 0);
    }

    // ---- texts

    public int feed(int a, int b, int c) {
        if (!tape.hasRoom()) {
            return FULL;
        }
        tape.append(a);
        tape.append(b);
        tape.append(c);
        return tape.length;
    }

    public int trim(int n) {
        if (!isWithin(n, 0, tape.length)) {
            return BAD;
        }
        tape.length = n;
        return n;
    }

    public int text() {
        boolean isText = reader.isText();
        int place = tape.start;
        tape.length = 0;
        if (!isText) {
            return -100 - place;
        }
        if (lawCount == MOST_TEXTS) {
            return FULL;
        }
        Law law = reader.law();
        laws[lawCount] = law;
        lawCount++;
        if (law.key == Law.RISE) {
            bag.obey(law);
        }
        return lawCount - 1;
    }

    public int textTold(int text, int what) {
        if (!isWithin(text, 0, lawCount - 1) || !isWithin(what, 0, 1)) {
            return BAD;
        }
        Law law = laws[text];
        if (law == null) {
            return BAD;
        }
        return what == 0 ? law.key : law.operands;
    }

    public int why(int key) {
        return isWithin(key, Law.RISE, Law.FINE) ? lastTextOf(key) : BAD;
    }

    // ---- sheets, slots

    public int sheet(int sheet, int sort, int n) {
        if (!isSheet(sheet) || !isWithin(sort, Sheet.MISSING, Sheet.FLOATS)) {
            return BAD;
        }
        if (sort == Sheet.MISSING) {
            sheets[sheet].become(Sheet.MISSING, 0);
            return 0;
        }
        if (n > Sheet.MOST_PLACES) {
            return BAD;
        }
        if (n < 0) {
            return SIZE;
        }
        sheets[sheet].become(sort, n);
        return n;
    }

    public int mark(int sheet, int place, int v) {
        if (!isSheet(sheet)) {
            return BAD;
        }
        Sheet row = sheets[sheet];
        if (row.isMissing()) {
            return NOTHING;
        }
        if (!row.has(place)) {
            return INDEX;
        }
        if (row.sort == Sheet.SHORTS) {
            if (v == NONE) {
                return KIND;
            }
            row.places[place] = (short) v;
            return 1;
        }
        if (v != NONE && !isWithin(v, -Sheet.MOST_FLOAT, Sheet.MOST_FLOAT)) {
            return BAD;
        }
        row.places[place] = v;
        return 1;
    }

    public int pour(int sheet) {
        if (!isSheet(sheet)) {
            return BAD;
        }
        Sheet row = sheets[sheet];
        if (row.isMissing()) {
            return NOTHING;
        }
        int otherwise = 0;
        for (int i = 0; i < bag.count && i < row.size; i++) {
            if (row.isNumber(i)) {
                int town = held(row.places[i], 0, MOST_TOWN);
                if (town != bag.town[i]) {
                    otherwise++;
                }
                bag.become(i, bag.kind[i], bag.thick[i], town);
            }
        }
        return otherwise;
    }

    public int reads(int sheet) {
        if (!isSheet(sheet)) {
            return BAD;
        }
        Sheet row = sheets[sheet];
        if (row.isMissing()) {
            return NOTHING;
        }
        for (int place = 0; place < row.size; place++) {
            if (row.isNumber(place) && (!bag.has(place) || row.places[place] != bag.order[place])) {
                return place;
            }
        }
        return NONE;
    }

    public int copy(int from, int place, int to, int at, int many) {
        if (!isSheet(from) || !isSheet(to)) {
            return BAD;
        }
        Sheet source = sheets[from];
        Sheet target = sheets[to];
        if (source.isMissing() || target.isMissing()) {
            return NOTHING;
        }
        if (source.sort != target.sort) {
            return KIND;
        }
        if (!source.hasRow(place, many) || !target.hasRow(at, many)) {
            return INDEX;
        }
        System.arraycopy(source.places, place, target.places, at, many);
        return many;
    }

    public int lay(int slot, int thing, int k) {
        if (!isSlot(slot) || !isWithin(thing, HOLDS_NOTHING, HOLDS_NUMBER)) {
            return BAD;
        }
        if (thing == HOLDS_LETTER && !bag.has(k) || thing == HOLDS_SHEET && !isSheet(k)) {
            return BAD;
        }
        if (thing == HOLDS_SHEET && sheets[k].isMissing()) {
            return NOTHING;
        }
        Slot holder = slots[slot];
        int was = holder.thing;
        holder.thing = thing;
        if (thing == HOLDS_LETTER) {
            holder.kind = bag.kind[k];
            holder.thick = bag.thick[k];
        } else if (thing == HOLDS_SHEET) {
            holder.row.becomeAs(sheets[k]);
        } else if (thing == HOLDS_NUMBER) {
            holder.number = k;
        }
        return was;
    }

    public int ask(int slot, int kind) {
        if (!isSlot(slot) || !isKind(kind)) {
            return BAD;
        }
        Slot holder = slots[slot];
        if (holder.thing == HOLDS_NOTHING) {
            return NOTHING;
        }
        if (holder.thing != HOLDS_LETTER || !Kinds.isOf(holder.kind, kind)) {
            return KIND;
        }
        return Kinds.worth(holder.kind, holder.thick);
    }

    public int item(int slot, int place) {
        if (!isSlot(slot)) {
            return BAD;
        }
        Slot holder = slots[slot];
        if (holder.thing == HOLDS_NOTHING) {
            return NOTHING;
        }
        if (holder.thing != HOLDS_SHEET) {
            return KIND;
        }
        if (!holder.row.has(place)) {
            return INDEX;
        }
        return holder.row.isNumber(place) ? holder.row.places[place] : KIND;
    }

    public int rest(int slot, int n) {
        if (!isSlot(slot)) {
            return BAD;
        }
        Slot holder = slots[slot];
        if (holder.thing == HOLDS_NOTHING) {
            return NOTHING;
        }
        if (holder.thing != HOLDS_NUMBER) {
            return KIND;
        }
        return n == 0 ? NO : holder.number % n;
    }

    // ---- rows, images

    public int tell(int v) {
        if (waitingCount == MOST_WAITING) {
            return FULL;
        }
        waiting[waitingCount] = v;
        waitingCount++;
        return waitingCount;
    }

    public int check(int n) {
        int told = waitingCount;
        waitingCount = 0;
        if (!isWithin(n, 1, MOST_CHECK_JOLTS)) {
            return BAD;
        }
        if (!imageKept) {
            return NO;
        }
        thought.becomeAs(image);
        int due = 2 * Math.min(n, MOST_JOLT - image.jolt);
        for (int i = 0; i < due; i += 2) {
            thought.joltOnce();
            if (i >= told || waiting[i] != thought.thickOnTop()) {
                return 1 + i;
            }
            if (i + 1 >= told || waiting[i + 1] != thought.changes) {
                return 2 + i;
            }
        }
        return told > due ? 1 + due : 0;
    }

    public int keep() {
        image.becomeAs(bag);
        imageLawCount = lawCount;
        imageKept = true;
        return bag.count;
    }

    public int back() {
        if (!imageKept) {
            return NO;
        }
        bag.becomeAs(image);
        lawCount = imageLawCount;
        return bag.count;
    }

    public int count(int what) {
        switch (what) {
            case 0: return bag.count;
            case 1: return bag.jolt;
            case 2: return bag.bump;
            case 3: return bag.townCount();
            case 4: return lawCount;
            case 5: return waitingCount;
            case 6: return tape.length;
            case 7: return bag.z;
            default: return BAD;
        }
    }

    // ---- what the calls share

    private static boolean isWithin(int v, int least, int most) {
        return v >= least && v <= most;
    }

    private static int held(int v, int least, int most) {
        return Math.max(least, Math.min(most, v));
    }

    private static boolean isKind(int v) {
        return isWithin(v, 0, MOST_KIND);
    }

    private static boolean isThick(int v) {
        return isWithin(v, 1, MOST_THICK);
    }

    private static boolean isTown(int v) {
        return isWithin(v, 0, MOST_TOWN);
    }

    private static boolean isSheet(int v) {
        return isWithin(v, 0, SHEETS - 1);
    }

    private static boolean isSlot(int v) {
        return isWithin(v, 0, SLOTS - 1);
    }

    private void think(int n) {
        thought.becomeAs(bag);
        thought.ride(n);
    }

    private int lastTextOf(int key) {
        for (int i = lawCount - 1; i >= 0; i--) {
            if (laws[i] != null && laws[i].key == key) {
                return i;
            }
        }
        return NONE;
    }

    private Law lawOf(int key) {
        int last = lastTextOf(key);
        return last == NONE ? null : laws[last];
    }

    private static int differences(Bag bag, Sheet row) {
        int sum = 0;
        for (int place = 0; place < row.size; place++) {
            if (row.isNumber(place)) {
                int town = bag.has(place) ? bag.town[bag.order[place]] : 0;
                sum += Math.abs(town - row.places[place]);
            }
        }
        return sum;
    }

    /** What the KINDS do, and which is under which. */
    private static final class Kinds {
        private static final int LETTER = 0, SILK = 1, WET = 2, BANK = 3, SODDEN = 4, HOLLOW = 5;

        /** Whether a kind is that other one, or under it. */
        static boolean isOf(int kind, int other) {
            return other == kind || other == LETTER
                    || other == SILK && kind == BANK || other == WET && kind == SODDEN;
        }

        static int rises(int kind, int asLetter) {
            int asSilk = Math.max(0, asLetter - 20);
            switch (kind) {
                case SILK: return asSilk;
                case BANK: return asSilk / 2;
                case WET: return Math.max(0, asLetter - 5);
                case SODDEN: return 0;
                case HOLLOW: return 2 * asLetter;
                default: return asLetter;
            }
        }

        static int grips(int kind) {
            int asLetter = 2;
            int asSilk = 0;
            int asWet = asLetter + 8;
            switch (kind) {
                case SILK: return asSilk;
                case BANK: return asSilk + 4;
                case WET: return asWet;
                case SODDEN: return 2 * asWet;
                case HOLLOW: return asLetter - 1;
                default: return asLetter;
            }
        }

        static int worth(int kind, int thick) {
            int asSilk = thick + 7;
            int asWet = 99 - thick;
            switch (kind) {
                case SILK: return asSilk;
                case BANK: return 2 * asSilk;
                case WET: return asWet;
                case SODDEN: return asWet - 6;
                case HOLLOW: return 2;
                default: return thick;
            }
        }
    }

    /** The letters and all that jolts need: what goes on, what is only thought, and the image are each one. */
    private static final class Bag {
        private static final int MOST_RISE = 999;

        private int count = 0;
        private final int[] kind = new int[MOST_LETTERS];
        private final int[] thick = new int[MOST_LETTERS];
        private final int[] town = new int[MOST_LETTERS];
        private final int[] moved = new int[MOST_LETTERS];
        // By letters what the law gives: kept right at every change, since a thought asks for it thousands of times.
        private final int[] rises = new int[MOST_LETTERS];
        // By places, from the top, the letters' numbers.
        private final int[] order = new int[MOST_LETTERS];
        private int bump = 0;
        private int changes = 0;
        private int jolt = 0;
        private int z = 1;
        // The text that counts for rise; null: there is none.
        private Law rise = null;

        /** Numbers and places both go from 0 without gaps: this tells of both. */
        boolean has(int numberOrPlace) {
            return numberOrPlace >= 0 && numberOrPlace < count;
        }

        void becomeAs(Bag other) {
            count = other.count;
            System.arraycopy(other.kind, 0, kind, 0, MOST_LETTERS);
            System.arraycopy(other.thick, 0, thick, 0, MOST_LETTERS);
            System.arraycopy(other.town, 0, town, 0, MOST_LETTERS);
            System.arraycopy(other.moved, 0, moved, 0, MOST_LETTERS);
            System.arraycopy(other.rises, 0, rises, 0, MOST_LETTERS);
            System.arraycopy(other.order, 0, order, 0, MOST_LETTERS);
            bump = other.bump;
            changes = other.changes;
            jolt = other.jolt;
            z = other.z;
            rise = other.rise;
        }

        /** One more letter at the bottom, if there is room: its number. */
        int add(int itsKind, int itsThick, int itsTown) {
            if (count == MOST_LETTERS) {
                return FULL;
            }
            int letter = count;
            count++;
            order[letter] = letter;
            moved[letter] = 0;
            become(letter, itsKind, itsThick, itsTown);
            return letter;
        }

        void become(int letter, int itsKind, int itsThick, int itsTown) {
            kind[letter] = itsKind;
            thick[letter] = itsThick;
            town[letter] = itsTown;
            weigh(letter);
        }

        void obey(Law law) {
            rise = law;
            for (int letter = 0; letter < count; letter++) {
                weigh(letter);
            }
        }

        private void weigh(int letter) {
            int given = rise == null ? thick[letter] : rise.gives(thick[letter], town[letter], moved[letter]);
            rises[letter] = Kinds.rises(kind[letter], held(given, 0, MOST_RISE));
        }

        int placeOf(int letter) {
            for (int place = 0; place < count; place++) {
                if (order[place] == letter) {
                    return place;
                }
            }
            return NONE;
        }

        /** The letter at one place is taken out and comes to the other place. */
        void move(int from, int to) {
            if (!has(from) || !has(to)) {
                return;
            }
            int letter = order[from];
            for (int place = from; place < to; place++) {
                order[place] = order[place + 1];
            }
            for (int place = from; place > to; place--) {
                order[place] = order[place - 1];
            }
            order[to] = letter;
        }

        void turnOver() {
            for (int place = 0; place < count / 2; place++) {
                swap(place, count - 1 - place);
            }
        }

        private void swap(int place, int other) {
            int letter = order[place];
            order[place] = order[other];
            order[other] = letter;
        }

        int draw() {
            z = z * 1103515245 + 12345;
            return z >>> 8;
        }

        void ride(int n) {
            for (int i = 0; i < n; i++) {
                joltOnce();
            }
        }

        void joltOnce() {
            for (int upper = jolt % 2; upper + 1 < count; upper += 2) {
                if (climbs(upper + 1)) {
                    swap(upper, upper + 1);
                    changes++;
                    moved[order[upper]]++;
                    moved[order[upper + 1]]++;
                    weigh(order[upper]);
                    weigh(order[upper + 1]);
                }
            }
            if (count > 0 && draw() % 100 < bump) {
                move(draw() % count, 0);
            }
            jolt++;
        }

        /** Whether the letter at a place, below another one, climbs past it. */
        private boolean climbs(int place) {
            int lower = order[place];
            int upper = order[place - 1];
            return rises[lower] - rises[upper] > Kinds.grips(kind[lower]) + Kinds.grips(kind[upper]);
        }

        int climbers() {
            int climbers = 0;
            for (int place = 1; place < count; place++) {
                if (climbs(place)) {
                    climbers++;
                }
            }
            return climbers;
        }

        int mess() {
            int mess = 0;
            for (int upper = 0; upper < count; upper++) {
                for (int lower = upper + 1; lower < count; lower++) {
                    if (rises[order[lower]] > rises[order[upper]]) {
                        mess++;
                    }
                }
            }
            return mess;
        }

        int layers() {
            int layers = 0;
            for (int place = 0; place < count; place++) {
                if (startsRow(place)) {
                    layers++;
                }
            }
            return layers;
        }

        int rowsOf(int itsTown) {
            int rows = 0;
            for (int place = 0; place < count; place++) {
                if (town[order[place]] == itsTown && startsRow(place)) {
                    rows++;
                }
            }
            return rows;
        }

        /** Whether the one above a place, if any, is for another town. */
        private boolean startsRow(int place) {
            return place == 0 || town[order[place]] != town[order[place - 1]];
        }

        int thickOfAll() {
            int sum = 0;
            for (int letter = 0; letter < count; letter++) {
                sum += thick[letter];
            }
            return sum;
        }

        int thickOnTop() {
            return count == 0 ? 0 : thick[order[0]];
        }

        int townCount() {
            int towns = 0;
            for (int letter = 0; letter < count; letter++) {
                towns |= 1 << town[letter];
            }
            return Integer.bitCount(towns);
        }
    }

    /** A text as it is worked out: its numbers, names and signs, each sign behind what it joins. */
    private static final class Law {
        private static final int RISE = 0, FEE = 1, FINE = 2;
        private static final int LEAST_NAME = -3;

        private final int key;
        private final int operands;
        // A number stands as it is, name k (0 .. 2) as -1 - k, a sign as the number below 0 of its byte.
        private final int[] codes;
        private final int[] stack;

        Law(int key, int operands, int[] codes) {
            this.key = key;
            this.operands = operands;
            this.codes = codes;
            this.stack = new int[operands];
        }

        static String namesOf(int key) {
            return key == RISE ? "tdm" : key == FEE ? "mj" : "tp";
        }

        int gives(int first, int second, int third) {
            int height = 0;
            for (int i = 0; i < codes.length; i++) {
                int code = codes[i];
                if (code >= LEAST_NAME) {
                    if (height < stack.length) {
                        stack[height] = code >= 0 ? code : code == -1 ? first : code == -2 ? second : third;
                        height++;
                    }
                } else if (code == -'!') {
                    if (height > 0) {
                        stack[height - 1] = stack[height - 1] == 0 ? 1 : 0;
                    }
                } else if (height > 1) {
                    height--;
                    stack[height - 1] = joined(-code, stack[height - 1], stack[height]);
                }
            }
            return height > 0 ? stack[0] : 0;
        }

        private static int joined(int sign, int a, int b) {
            switch (sign) {
                case '|': return a != 0 || b != 0 ? 1 : 0;
                case '&': return a != 0 && b != 0 ? 1 : 0;
                case '<': return a < b ? 1 : 0;
                case '=': return a == b ? 1 : 0;
                case '>': return a > b ? 1 : 0;
                case '+': return a + b;
                case '-': return a - b;
                case '*': return a * b;
                default: return b == 0 ? 0 : a / b;
            }
        }
    }

    /** The bytes that were fed, and the word or sign among them that is read now. */
    private static final class Tape {
        private static final int MOST_BYTES = 96, BYTES_A_FEED = 12;
        private static final int END = 0, WORD = 1, DIGITS = 2, SIGN = 3, GLUED = 4;

        private final int[] bytes = new int[MOST_BYTES];
        private int length = 0;
        private int sort = SIGN;
        private int start = 0;
        private int end = 0;

        boolean hasRoom() {
            return length + BYTES_A_FEED <= MOST_BYTES;
        }

        void append(int fourBytes) {
            for (int shift = 24; shift >= 0 && length < MOST_BYTES; shift -= 8) {
                bytes[length] = fourBytes >>> shift & 255;
                length++;
            }
        }

        void rewind() {
            sort = SIGN;
            end = 0;
            next();
        }

        void next() {
            boolean behindWord = sort == WORD || sort == DIGITS;
            int from = end;
            start = from;
            while (start < length && bytes[start] == ' ') {
                start++;
            }
            end = start;
            if (start == length) {
                sort = END;
                return;
            }
            sort = sortOf(bytes[start]);
            end++;
            while (sort != SIGN && end < length && sortOf(bytes[end]) == sort) {
                end++;
            }
            if (behindWord && sort != SIGN && start == from) {
                sort = GLUED;
            }
        }

        private static int sortOf(int b) {
            if (b >= 'a' && b <= 'z') {
                return WORD;
            }
            return b >= '0' && b <= '9' ? DIGITS : SIGN;
        }

        /** The byte of a sign; 0, which no text has, if this is none. */
        int sign() {
            return sort == SIGN ? bytes[start] : 0;
        }

        boolean isWord(String word) {
            if (sort != WORD || end - start != word.length()) {
                return false;
            }
            for (int i = 0; i < word.length(); i++) {
                if (bytes[start + i] != word.charAt(i)) {
                    return false;
                }
            }
            return true;
        }

        int number() {
            int number = 0;
            for (int i = start; i < end; i++) {
                number = 10 * number + bytes[i] - '0';
            }
            return number;
        }
    }

    /** Reads the tape as a text. Where a method answers false, the tape stands at the fault. */
    private static final class Reader {
        private static final int LEVEL_OR = 0, LEVEL_AND = 1, LEVEL_TEST = 2, LEVEL_SUM = 3, LEVEL_TERM = 4;
        private static final int NO_LEVEL = -1, MOST_OPEN = 8, MOST_DIGITS = 4;

        private final Tape tape;
        private int key = Law.RISE;
        private int operands = 0;
        // Each word or sign gives one code at the most, so there are no more than bytes.
        private final int[] codes = new int[Tape.MOST_BYTES];
        private int codeCount = 0;
        private int openBrackets = 0;
        private int openNots = 0;

        Reader(Tape tape) {
            this.tape = tape;
        }

        boolean isText() {
            operands = 0;
            codeCount = 0;
            openBrackets = 0;
            openNots = 0;
            tape.rewind();
            return isKey() && isChain(LEVEL_OR) && tape.sort == Tape.END;
        }

        Law law() {
            return new Law(key, operands, Arrays.copyOf(codes, codeCount));
        }

        private boolean isKey() {
            if (tape.isWord("rise")) {
                key = Law.RISE;
            } else if (tape.isWord("fee")) {
                key = Law.FEE;
            } else if (tape.isWord("fine")) {
                key = Law.FINE;
            } else {
                return false;
            }
            tape.next();
            return true;
        }

        /** Parts of the next tighter level, with signs of this level between them. */
        private boolean isChain(int level) {
            if (level > LEVEL_TERM) {
                return isPiece();
            }
            if (!isChain(level + 1)) {
                return false;
            }
            int mostSigns = level == LEVEL_TEST ? 1 : Tape.MOST_BYTES;
            for (int i = 0; i < mostSigns && levelOf(tape.sign()) == level; i++) {
                int sign = tape.sign();
                tape.next();
                if (!isChain(level + 1)) {
                    return false;
                }
                put(-sign);
            }
            return true;
        }

        private static int levelOf(int sign) {
            switch (sign) {
                case '|': return LEVEL_OR;
                case '&': return LEVEL_AND;
                case '<': case '=': case '>': return LEVEL_TEST;
                case '+': case '-': return LEVEL_SUM;
                case '*': case '/': return LEVEL_TERM;
                default: return NO_LEVEL;
            }
        }

        private boolean isPiece() {
            if (tape.sort == Tape.DIGITS) {
                return isNumber();
            }
            if (tape.sort == Tape.WORD) {
                return isName();
            }
            return tape.sign() == '!' ? isNot() : isBracket();
        }

        private boolean isNumber() {
            return tape.end - tape.start <= MOST_DIGITS && isOperand(tape.number());
        }

        private boolean isName() {
            int name = Law.namesOf(key).indexOf((char) tape.bytes[tape.start]);
            return tape.end - tape.start == 1 && name >= 0 && isOperand(-1 - name);
        }

        private boolean isOperand(int code) {
            put(code);
            operands++;
            tape.next();
            return true;
        }

        private boolean isNot() {
            if (openNots == MOST_OPEN) {
                return false;
            }
            openNots++;
            tape.next();
            if (!isPiece()) {
                return false;
            }
            openNots--;
            put(-'!');
            return true;
        }

        private boolean isBracket() {
            if (tape.sign() != '(' || openBrackets == MOST_OPEN) {
                return false;
            }
            openBrackets++;
            tape.next();
            if (!isChain(LEVEL_OR) || tape.sign() != ')') {
                return false;
            }
            openBrackets--;
            tape.next();
            return true;
        }

        private void put(int code) {
            if (codeCount < codes.length) {
                codes[codeCount] = code;
                codeCount++;
            }
        }
    }

    /** A row of shorts or floats, all whole numbers that an int holds as well; NONE stands for NO NUMBER. */
    private static final class Sheet {
        private static final int MISSING = -1, SHORTS = 0, FLOATS = 1;
        private static final int MOST_PLACES = 24, MOST_FLOAT = 99999;

        private int sort = MISSING;
        private int size = 0;
        private final int[] places = new int[MOST_PLACES];

        boolean isMissing() {
            return sort == MISSING;
        }

        boolean has(int place) {
            return place >= 0 && place < size;
        }

        /** Without sums, which could wrap. */
        boolean hasRow(int place, int many) {
            return place >= 0 && many >= 0 && place <= size && many <= size - place;
        }

        boolean isNumber(int place) {
            return has(place) && places[place] != NONE;
        }

        void become(int itsSort, int itsSize) {
            sort = itsSort;
            size = itsSize;
            Arrays.fill(places, 0);
        }

        void becomeAs(Sheet other) {
            sort = other.sort;
            size = other.size;
            System.arraycopy(other.places, 0, places, 0, MOST_PLACES);
        }
    }

    /** What a slot holds; of its fields those count that belong to the thing. */
    private static final class Slot {
        private int thing = HOLDS_NOTHING;
        private int kind = 0;
        private int thick = 0;
        private int number = 0;
        private final Sheet row = new Sheet();
    }
}
