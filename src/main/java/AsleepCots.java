/** A room of children who ought to sleep; what each call promises stands in the document, DOC.md. */
public final class AsleepCots {
    public static final int NONE = -1000000, BAD = -1000001, STATE = -1000002, FULL = -1000003;

    private static final int FOUND = -1000010, FAULTY = -1000100;
    private static final int FINDS_NULL = 1, FINDS_PLACE = 2, FINDS_KIND = 3, FINDS_SIZE = 4, FINDS_STORE = 5;

    private static final int ROWS = 8, ITEMS = 40, MISSING = -1, BYTES = 0, SHORTS = 1, INTS = 2;
    private static final int TAPE = 120, CHILDREN = 7, ACTS = 24, IMAGES = 2, TRACE = 16;
    private static final int LAST_MINUTE = 999, FORESIGHT = 60, PLANNED = 30, TOLD = 12;
    private static final int LOUDEST_LORRY = 99, LORRY_MINUTES = 8, CASES = 10, LAST_SEED = 999999;

    private static final int LIES = 0, CRIES = 1, SLEEPS = 2;
    private static final int PLAIN = 1, LOUD = 2, SONG = 3, DEEP = 4, STILL = 5;
    private static final int TRAIT_KIND = 0, TRAIT_NEED = 1, TRAIT_HOLDS = 2, TRAIT_VOICE = 3;

    /** The kind that a kind is, too; the first, CHILD, is no other. */
    private static final int[] ABOVE = {-1, 0, 1, 1, 0, 4};

    private final Row[] rows = new Row[ROWS];
    private final Tape tape = new Tape();
    private final Room now = new Room();
    private final Room draft = new Room();
    private final Room[] images = new Room[IMAGES];
    private final Past past = new Past();
    private final Foresight foresight = new Foresight();
    private final Asks asks = new Asks();
    private int latestFault;
    private int latestFinding;

    public AsleepCots() {
        for (int row = 0; row < ROWS; row++) {
            rows[row] = new Row();
        }
        for (int k = 0; k < IMAGES; k++) {
            images[k] = new Room();
        }
    }

    // ---- rows

    public int row(int row, int lane, int n) {
        if (noRow(row) || beyond(lane, BYTES, INTS) || n > ITEMS) {
            return BAD;
        }
        if (n < 0) {
            return found(FINDS_SIZE);
        }
        rows[row].begin(lane, n);
        return foundNothing(n);
    }

    public int set(int row, int i, int v) {
        if (noRow(row)) {
            return BAD;
        }
        int finding = rows[row].findingFor(i, 1);
        if (finding != 0) {
            return found(finding);
        }
        rows[row].items[i] = rows[row].narrowed(v);
        return foundNothing(rows[row].items[i]);
    }

    public int copy(int a, int i, int b, int j, int n) {
        if (noRow(a) || noRow(b)) {
            return BAD;
        }
        if (rows[a].lane == MISSING || rows[b].lane == MISSING) {
            return found(FINDS_NULL);
        }
        if (rows[a].lane != rows[b].lane) {
            return found(FINDS_STORE);
        }
        if (rows[a].lacks(i, n) || rows[b].lacks(j, n)) {
            return found(FINDS_PLACE);
        }
        System.arraycopy(rows[a].items, i, rows[b].items, j, n);
        return foundNothing(n);
    }

    public int drop(int row) {
        if (noRow(row)) {
            return BAD;
        }
        if (rows[row].lane == MISSING) {
            return found(FINDS_NULL);
        }
        rows[row].lane = MISSING;
        return foundNothing(rows[row].size);
    }

    // ---- what is told

    public int feed(int letter) {
        if (beyond(letter, 0, 255)) {
            return BAD;
        }
        if (tape.length >= TAPE) {
            return FULL;
        }
        tape.bytes[tape.length] = letter;
        tape.length++;
        return tape.length;
    }

    public int room() {
        int place = tape.readInto(draft);
        tape.length = 0;
        if (place >= 0) {
            latestFault = tape.faultRead;
            return FAULTY - place;
        }
        now.become(draft);
        past.forget();
        return now.children;
    }

    public int fault() {
        return latestFault;
    }

    public int undo() {
        if (past.size == 0) {
            return STATE;
        }
        past.bringBack(now);
        return past.size;
    }

    // ---- what is done

    public int minutes(int n) {
        if (noRoom()) {
            return STATE;
        }
        if (beyond(n, 1, ACTS)) {
            return BAD;
        }
        if (now.minute + n > LAST_MINUTE) {
            return FULL;
        }
        for (int m = 0; m < n; m++) {
            past.keep(now);
            now.passMinute();
        }
        return now.thoseWho(SLEEPS);
    }

    public int hand(int child, int on) {
        if (noChild(child) || beyond(on, 0, 1)) {
            return BAD;
        }
        if (has(now.held, child) == (on == 1)) {
            return STATE;
        }
        if (on == 1 && Integer.bitCount(now.held) >= now.women) {
            return FULL;
        }
        past.keep(now);
        now.held ^= 1 << child;
        return now.held;
    }

    public int carry(int child, int out) {
        if (noChild(child) || beyond(out, 0, 1)) {
            return BAD;
        }
        if (has(now.away, child) == (out == 1)) {
            return STATE;
        }
        past.keep(now);
        now.away ^= 1 << child;
        return now.away;
    }

    public int change(int child, int other) {
        if (noChild(child) || noChild(other) || child == other) {
            return BAD;
        }
        past.keep(now);
        now.swapCots(child, other);
        return now.cots[child];
    }

    public int lorry(int noise) {
        if (noRoom()) {
            return STATE;
        }
        if (beyond(noise, 0, LOUDEST_LORRY)) {
            return BAD;
        }
        past.keep(now);
        return now.passLorry(noise);
    }

    public int need(int child, int n) {
        if (noChild(child) || beyond(n, 1, 9)) {
            return BAD;
        }
        past.keep(now);
        int before = now.needs[child];
        now.needs[child] = n;
        return before;
    }

    public int child(int child, int what) {
        if (noChild(child)) {
            return BAD;
        }
        switch (what) {
            case 0: return now.needs[child];
            case 1: return now.holds[child];
            case 2: return now.voices[child];
            case 3: return now.cots[child];
            case 4: return now.states[child];
            case 5: return now.criesFor[child];
            case 6: return now.calms[child];
            case 7: return now.noiseAt(child, now.heardCriers());
            default: return BAD;
        }
    }

    public int stand(int what) {
        if (noRoom()) {
            return STATE;
        }
        switch (what) {
            case 0: return now.thoseWho(LIES);
            case 1: return now.thoseWho(CRIES);
            case 2: return now.thoseWho(SLEEPS);
            case 3: return now.away;
            case 4: return now.held;
            default: return BAD;
        }
    }

    // ---- foretold

    public int ahead(int n, int how) {
        if (noRoom()) {
            return STATE;
        }
        if (beyond(n, 0, FORESIGHT) || beyond(how, LIES, SLEEPS)) {
            return BAD;
        }
        return foresight.after(now, n).thoseWho(how);
    }

    public int noise(int child, int n) {
        if (noChild(child) || beyond(n, 0, FORESIGHT)) {
            return BAD;
        }
        Room then = foresight.after(now, n);
        return then.noiseAt(child, then.heardCriers());
    }

    public int asleep(int child) {
        return noChild(child) ? BAD : foresight.firstAsleep(now, 1 << child);
    }

    public int allAsleep() {
        return noRoom() ? STATE : foresight.firstAsleep(now, now.everybody() & ~now.away);
    }

    public int dinner(int n) {
        if (noRoom()) {
            return STATE;
        }
        return beyond(n, 1, FORESIGHT) ? BAD : foresight.longestDinner(now, n);
    }

    public int hands(int n, int what) {
        if (noRoom()) {
            return STATE;
        }
        if (beyond(n, 1, PLANNED) || beyond(what, 0, 1)) {
            return BAD;
        }
        foresight.planHands(now, n);
        return what == 0 ? foresight.plannedSleepers : foresight.planned;
    }

    public int outs(int n, int what) {
        if (noRoom()) {
            return STATE;
        }
        if (beyond(n, 1, PLANNED) || beyond(what, 0, 1)) {
            return BAD;
        }
        int set = foresight.fewestOut(now, n);
        return what == 0 ? Integer.bitCount(set) : set;
    }

    public int best(int n, int what) {
        if (noRoom()) {
            return STATE;
        }
        if (beyond(n, 1, PLANNED) || beyond(what, 0, 1)) {
            return BAD;
        }
        if (now.children < 2) {
            return NONE;
        }
        foresight.planChange(now, n);
        return what == 0 ? foresight.planned : foresight.plannedSleepers;
    }

    public int silence() {
        return noRoom() ? STATE : now.loudestUnheeded();
    }

    public int wakes(int child) {
        if (noChild(child)) {
            return BAD;
        }
        return has(now.away, child) ? STATE : foresight.wokenBy(now, child);
    }

    public int loudest() {
        return noRoom() ? STATE : now.whereLoudest();
    }

    public int who(int child, int which, int row, int i, int n) {
        if (noChild(child) || beyond(which, TRAIT_KIND, TRAIT_VOICE) || noRow(row) || beyond(n, 1, TOLD)) {
            return BAD;
        }
        int finding = rows[row].findingFor(i, n);
        if (finding != 0) {
            return found(finding);
        }
        foresight.tell(rows[row], i, n);
        return foundNothing(foresight.fittingTraits(now, child, which));
    }

    public int held(int row, int i, int n) {
        if (noRoom()) {
            return STATE;
        }
        if (noRow(row) || beyond(n, 1, TOLD)) {
            return BAD;
        }
        int finding = rows[row].findingFor(i, n);
        if (finding != 0) {
            return found(finding);
        }
        foresight.tell(rows[row], i, n);
        return foundNothing(foresight.fittingHands(now));
    }

    public long lorries(int noise, int n, int p, int what) {
        if (noRoom()) {
            return STATE;
        }
        if (beyond(noise, 0, LOUDEST_LORRY) || beyond(n, 0, LORRY_MINUTES)
                || beyond(p, 0, CASES) || beyond(what, 0, 1)) {
            return BAD;
        }
        foresight.countCases(now, noise, n, p);
        return what == 0 ? foresight.casesAbove : foresight.casesBelow;
    }

    public int drawn(int n, int seed, int what) {
        if (noRoom()) {
            return STATE;
        }
        if (beyond(n, 0, FORESIGHT) || beyond(seed, 1, LAST_SEED) || beyond(what, 0, 1)) {
            return BAD;
        }
        int loudMinutes = foresight.drawDay(now, n, seed);
        return what == 0 ? Integer.bitCount(foresight.trial.thoseWho(SLEEPS)) : loudMinutes;
    }

    public int image(int k) {
        if (beyond(k, 0, IMAGES - 1)) {
            return BAD;
        }
        if (noRoom()) {
            return STATE;
        }
        images[k].become(now);
        return 1;
    }

    public int restore(int k) {
        if (beyond(k, 0, IMAGES - 1)) {
            return BAD;
        }
        if (images[k].children == 0) {
            return STATE;
        }
        now.become(images[k]);
        past.forget();
        return 1;
    }

    // ---- asked

    public int kind(int one) {
        return noChild(one) ? BAD : now.kinds[one];
    }

    public int as(int one, int kind) {
        if (noChild(one) || beyond(kind, 0, STILL)) {
            return BAD;
        }
        return isOne(now.kinds[one], kind) ? foundNothing(one) : found(FINDS_KIND);
    }

    public int ask(int one, int what) {
        if (noChild(one) || beyond(what, 0, 1)) {
            return BAD;
        }
        return asks.answer(now, one, what);
    }

    public int trace(int i) {
        return i < 0 || i >= asks.traced ? NONE : asks.numbers[i];
    }

    public int count(int what) {
        switch (what) {
            case 0: return presentRows();
            case 1: return now.children;
            case 2: return now.minute;
            case 3: return Integer.bitCount(now.thoseWho(SLEEPS));
            case 4: return Integer.bitCount(now.thoseWho(CRIES));
            case 5: return Integer.bitCount(now.away);
            case 6: return past.size;
            case 7: return tape.length;
            default: return BAD;
        }
    }

    public int status() {
        return latestFinding;
    }

    // ---- what the calls share

    private int found(int finding) {
        latestFinding = finding;
        return FOUND - finding;
    }

    private int foundNothing(int answer) {
        latestFinding = 0;
        return answer;
    }

    private boolean noRoom() {
        return now.children == 0;
    }

    private boolean noChild(int child) {
        return child < 0 || child >= now.children;
    }

    private int presentRows() {
        int present = 0;
        for (int row = 0; row < ROWS; row++) {
            if (rows[row].lane != MISSING) {
                present++;
            }
        }
        return present;
    }

    private static boolean noRow(int row) {
        return row < 0 || row >= ROWS;
    }

    private static boolean beyond(int number, int least, int most) {
        return number < least || number > most;
    }

    private static boolean has(int set, int one) {
        return (set >> one & 1) == 1;
    }

    private static boolean isOne(int kind, int asked) {
        // No kind has more than two others above it; the bound lets the climb's end be seen.
        int at = kind;
        for (int step = 0; step < ABOVE.length && at >= 0 && at < ABOVE.length; step++) {
            if (at == asked) {
                return true;
            }
            at = ABOVE[at];
        }
        return false;
    }

    /** A row keeps room for all its items from the start, so that no call makes an array. */
    private static final class Row {
        final int[] items = new int[ITEMS];
        int lane = MISSING;
        int size;

        void begin(int newLane, int newSize) {
            lane = newLane;
            size = newSize;
            for (int i = 0; i < ITEMS; i++) {
                items[i] = 0;
            }
        }

        int narrowed(int v) {
            switch (lane) {
                case BYTES: return (byte) v;
                case SHORTS: return (short) v;
                default: return v;
            }
        }

        /** By n as it is told, i + n may be beyond an int: so the end is looked at by a difference. */
        boolean lacks(int i, int n) {
            return n < 0 || i < 0 || i > size - n;
        }

        int findingFor(int i, int n) {
            if (lane == MISSING) {
                return FINDS_NULL;
            }
            return lacks(i, n) ? FINDS_PLACE : 0;
        }
    }

    /** The tape, and the reading of it: the law's slots once, then a child's slots again and again. */
    private static final class Tape {
        private static final int LETTER_K = 0, NUMBER = 1, COMMA = 2, SEMICOLON = 3, SORT = 4;
        private static final int[] STANDS = {LETTER_K, NUMBER, COMMA, NUMBER, SEMICOLON,
            SORT, NUMBER, COMMA, NUMBER, COMMA, NUMBER, SEMICOLON};
        private static final int[] LEAST = {0, 0, 0, 1, 0, 0, 1, 0, 0, 0, 0, 0};
        private static final int[] MOST = {0, 3, 0, 9, 0, 0, 9, 0, 9, 0, 9, 0};
        private static final int WOMEN_SLOT = 1, CRIES_SLOT = 3, SORT_SLOT = 5, NEED_SLOT = 6;
        private static final int HOLDS_SLOT = 8, VOICE_SLOT = 10, SLOTS = 12;
        private static final int CANNOT_STAND = 1, NOT_AS_TOLD = 2, NO_ROOM_FOR = 3;
        private static final int NO_FAULT = -1;

        final int[] bytes = new int[TAPE];
        int length;
        int faultRead;

        /** The place of the first fault, whose number is faultRead then; NO_FAULT if there is none. */
        int readInto(Room room) {
            room.clear();
            int slot = 0;
            int width = 0;
            for (int place = 0; place < length; place += Math.max(1, width)) {
                width = widthAt(place);
                faultRead = faultAt(place, width, slot, room.children);
                if (faultRead != 0) {
                    return place;
                }
                put(room, slot, valueAt(place, width));
                slot = slot + 1 < SLOTS ? slot + 1 : SORT_SLOT;
            }
            if (slot != SORT_SLOT || room.children == 0) {
                faultRead = CANNOT_STAND;
                return length;
            }
            return NO_FAULT;
        }

        /** How many bytes the token has; 0: it is none. */
        private int widthAt(int place) {
            int letter = bytes[place];
            if (letter >= 'a' && letter <= 'z' || letter == ',' || letter == ';') {
                return 1;
            }
            int figures = 0;
            for (int i = place; i < length && isFigure(bytes[i]); i++) {
                figures++;
            }
            return figures > 2 ? 0 : figures;
        }

        private int faultAt(int place, int width, int slot, int children) {
            if (width == 0 || !canStand(bytes[place], STANDS[slot])) {
                return CANNOT_STAND;
            }
            if (STANDS[slot] == NUMBER && beyond(valueAt(place, width), LEAST[slot], MOST[slot])) {
                return NOT_AS_TOLD;
            }
            return STANDS[slot] == SORT && children >= CHILDREN ? NO_ROOM_FOR : 0;
        }

        private static boolean canStand(int letter, int what) {
            switch (what) {
                case LETTER_K: return letter == 'k';
                case NUMBER: return isFigure(letter);
                case COMMA: return letter == ',';
                case SEMICOLON: return letter == ';';
                default: return kindOf(letter) != 0;
            }
        }

        /** Of a number its value, of a letter or sign the byte itself. */
        private int valueAt(int place, int width) {
            if (!isFigure(bytes[place])) {
                return bytes[place];
            }
            int value = 0;
            for (int i = place; i < place + width && i < length; i++) {
                value = 10 * value + bytes[i] - '0';
            }
            return value;
        }

        private static void put(Room room, int slot, int value) {
            int latest = room.children - 1;
            if (slot == WOMEN_SLOT) {
                room.women = value;
            } else if (slot == CRIES_SLOT) {
                room.cryingTime = value;
            } else if (slot == SORT_SLOT) {
                room.addChild(kindOf(value));
            } else if (latest >= 0 && slot == NEED_SLOT) {
                room.needs[latest] = value;
            } else if (latest >= 0 && slot == HOLDS_SLOT) {
                room.holds[latest] = value;
            } else if (latest >= 0 && slot == VOICE_SLOT) {
                room.voices[latest] = value;
            }
        }

        private static boolean isFigure(int letter) {
            return letter >= '0' && letter <= '9';
        }

        private static int kindOf(int letter) {
            switch (letter) {
                case 'p': return PLAIN;
                case 'l': return LOUD;
                case 's': return SONG;
                case 'd': return DEEP;
                case 't': return STILL;
                default: return 0;
            }
        }
    }

    /** All that an act may change and an image keeps; no children: there is no room. */
    private static final class Room {
        int children;
        int women;
        int cryingTime;
        int minute;
        int held;
        int away;
        final int[] kinds = new int[CHILDREN];
        final int[] needs = new int[CHILDREN];
        final int[] holds = new int[CHILDREN];
        final int[] voices = new int[CHILDREN];
        final int[] cots = new int[CHILDREN];
        final int[] states = new int[CHILDREN];
        final int[] criesFor = new int[CHILDREN];
        final int[] calms = new int[CHILDREN];

        void clear() {
            children = 0;
            women = 0;
            cryingTime = 0;
            minute = 0;
            held = 0;
            away = 0;
        }

        void addChild(int kind) {
            if (children >= CHILDREN) {
                return;
            }
            kinds[children] = kind;
            cots[children] = children;
            lieDown(children);
            children++;
        }

        void become(Room other) {
            children = other.children;
            women = other.women;
            cryingTime = other.cryingTime;
            minute = other.minute;
            held = other.held;
            away = other.away;
            System.arraycopy(other.kinds, 0, kinds, 0, CHILDREN);
            System.arraycopy(other.needs, 0, needs, 0, CHILDREN);
            System.arraycopy(other.holds, 0, holds, 0, CHILDREN);
            System.arraycopy(other.voices, 0, voices, 0, CHILDREN);
            System.arraycopy(other.cots, 0, cots, 0, CHILDREN);
            System.arraycopy(other.states, 0, states, 0, CHILDREN);
            System.arraycopy(other.criesFor, 0, criesFor, 0, CHILDREN);
            System.arraycopy(other.calms, 0, calms, 0, CHILDREN);
        }

        int everybody() {
            return (1 << children) - 1;
        }

        int thoseWho(int state) {
            int set = 0;
            for (int c = 0; c < children; c++) {
                if (states[c] == state) {
                    set |= 1 << c;
                }
            }
            return set;
        }

        boolean sleepAll(int set) {
            return (set & ~thoseWho(SLEEPS)) == 0;
        }

        int heardCriers() {
            return thoseWho(CRIES) & ~away;
        }

        /** Criers are given, not looked up: within a minute some change before the others are looked at. */
        int noiseAt(int c, int criers) {
            int sum = 0;
            for (int other = 0; other < children && criers != 0; other++) {
                if (other != c && has(criers, other)) {
                    sum += Math.max(0, callsOf(other) - Math.abs(cots[other] - cots[c]));
                }
            }
            return sum;
        }

        int callsOf(int c) {
            return kinds[c] == LOUD ? 2 * voices[c] : voices[c];
        }

        int bearsOf(int c) {
            return kinds[c] == DEEP || kinds[c] == STILL ? 2 * holds[c] : holds[c];
        }

        int whereLoudest() {
            int criers = heardCriers();
            int loudest = 0;
            for (int c = 1; c < children; c++) {
                if (noiseAt(c, criers) > noiseAt(loudest, criers)) {
                    loudest = c;
                }
            }
            return loudest;
        }

        int loudestUnheeded() {
            int loudest = LOUDEST_LORRY;
            for (int c = 0; c < children; c++) {
                if (states[c] == SLEEPS && !has(away, c)) {
                    loudest = Math.min(loudest, bearsOf(c));
                }
            }
            return loudest;
        }

        void lieDown(int c) {
            states[c] = LIES;
            criesFor[c] = 0;
            calms[c] = 0;
        }

        void cry(int c) {
            states[c] = CRIES;
            criesFor[c] = cryingTime;
            calms[c] = 0;
        }

        void wake(int c) {
            if (kinds[c] == STILL) {
                lieDown(c);
            } else {
                cry(c);
            }
        }

        void swapCots(int c, int other) {
            int cot = cots[c];
            cots[c] = cots[other];
            cots[other] = cot;
        }

        int passLorry(int noise) {
            int woken = 0;
            for (int c = 0; c < children; c++) {
                if (states[c] == SLEEPS && !has(away, c) && noise > bearsOf(c)) {
                    wake(c);
                    woken++;
                }
            }
            return woken;
        }

        void passMinutes(int n) {
            for (int m = 0; m < n; m++) {
                if (!passMinute()) {
                    minute += n - 1 - m;
                    return;
                }
            }
        }

        /** Whether a child changed: if none did, none does in any minute behind, as all goes by the children alone. */
        boolean passMinute() {
            int criers = heardCriers();
            boolean changed = false;
            for (int c = 0; c < children; c++) {
                if (states[c] == CRIES) {
                    calmDown(c);
                    changed = true;
                } else if (!has(away, c) && listen(c, noiseAt(c, criers) > bearsOf(c))) {
                    changed = true;
                }
            }
            minute++;
            return changed;
        }

        private void calmDown(int c) {
            criesFor[c] -= has(held, c) && !has(away, c) ? 2 : 1;
            if (criesFor[c] <= 0) {
                lieDown(c);
            }
        }

        private boolean listen(int c, boolean tooLoud) {
            if (states[c] == SLEEPS) {
                if (tooLoud) {
                    wake(c);
                }
                return tooLoud;
            }
            int before = calms[c];
            calms[c] = tooLoud ? 0 : before + calmGained(c);
            if (calms[c] >= needs[c]) {
                states[c] = SLEEPS;
            }
            return states[c] == SLEEPS || calms[c] != before;
        }

        private int calmGained(int c) {
            if (has(held, c)) {
                return 2;
            }
            return kinds[c] == SONG ? 0 : 1;
        }
    }

    /** The rooms as they were ahead of the latest acts, in a ring. */
    private static final class Past {
        private final Room[] kept = new Room[ACTS];
        private int next;
        int size;

        Past() {
            for (int i = 0; i < ACTS; i++) {
                kept[i] = new Room();
            }
        }

        void keep(Room room) {
            kept[next].become(room);
            next = (next + 1) % ACTS;
            size = Math.min(size + 1, ACTS);
        }

        void bringBack(Room room) {
            if (size == 0) {
                return;
            }
            next = (next + ACTS - 1) % ACTS;
            size--;
            room.become(kept[next]);
        }

        void forget() {
            size = 0;
        }
    }

    /** What is foretold is tried on rooms of its own, so that the room itself never changes. */
    private static final class Foresight {
        private static final long FACTOR = 16807, MODULUS = 2147483647;
        private static final int AS_IT_IS = 128;

        final Room trial = new Room();
        private final Room[] branches = new Room[LORRY_MINUTES + 1];
        private final int[] told = new int[TOLD];
        private int toldMinutes;
        int planned;
        int plannedSleepers;
        long casesAbove;
        long casesBelow;

        Foresight() {
            for (int i = 0; i < branches.length; i++) {
                branches[i] = new Room();
            }
        }

        Room after(Room now, int n) {
            trial.become(now);
            trial.passMinutes(n);
            return trial;
        }

        int firstAsleep(Room now, int set) {
            trial.become(now);
            for (int m = 0; m < FORESIGHT; m++) {
                if (trial.sleepAll(set)) {
                    return m;
                }
                if (!trial.passMinute()) {
                    return NONE;
                }
            }
            return trial.sleepAll(set) ? FORESIGHT : NONE;
        }

        int longestDinner(Room now, int n) {
            trial.become(now);
            int diners = now.everybody() & ~now.away;
            int longest = 0;
            int onEnd = 0;
            for (int m = 0; m < n; m++) {
                trial.passMinute();
                onEnd = trial.sleepAll(diners) ? onEnd + 1 : 0;
                longest = Math.max(longest, onEnd);
            }
            return longest;
        }

        void planHands(Room now, int n) {
            plannedSleepers = -1;
            for (int set = 0; set <= now.everybody(); set++) {
                if (Integer.bitCount(set) <= now.women) {
                    trial.become(now);
                    trial.held = set;
                    trial.passMinutes(n);
                    weighHands(set, Integer.bitCount(trial.thoseWho(SLEEPS)));
                }
            }
        }

        /** Sets come from the least on: so of several alike the one that is planned already stays. */
        private void weighHands(int set, int sleepers) {
            boolean fewer = Integer.bitCount(set) < Integer.bitCount(planned);
            if (sleepers > plannedSleepers || sleepers == plannedSleepers && fewer) {
                planned = set;
                plannedSleepers = sleepers;
            }
        }

        int fewestOut(Room now, int n) {
            // Nobody is left to sleep if all are carried out: so there is always a set.
            int fewest = now.everybody() & ~now.away;
            for (int set = 0; set <= now.everybody(); set++) {
                if ((set & now.away) == 0 && Integer.bitCount(set) < Integer.bitCount(fewest)) {
                    trial.become(now);
                    trial.away |= set;
                    trial.passMinutes(n);
                    fewest = trial.sleepAll(trial.everybody() & ~trial.away) ? set : fewest;
                }
            }
            return fewest;
        }

        void planChange(Room now, int n) {
            plannedSleepers = -1;
            for (int c = 0; c < now.children; c++) {
                for (int other = c + 1; other < now.children; other++) {
                    trial.become(now);
                    trial.swapCots(c, other);
                    trial.passMinutes(n);
                    int sleepers = Integer.bitCount(trial.thoseWho(SLEEPS));
                    if (sleepers > plannedSleepers) {
                        planned = 10 * c + other;
                        plannedSleepers = sleepers;
                    }
                }
            }
        }

        int wokenBy(Room now, int child) {
            int asItIs = after(now, 1).thoseWho(SLEEPS);
            trial.become(now);
            trial.cry(child);
            trial.passMinute();
            return asItIs & ~trial.thoseWho(SLEEPS) & ~(1 << child);
        }

        void tell(Row row, int i, int n) {
            toldMinutes = 0;
            if (row.lacks(i, n) || n > TOLD) {
                return;
            }
            System.arraycopy(row.items, i, told, 0, n);
            toldMinutes = n;
        }

        private boolean goesAsTold() {
            for (int m = 0; m < toldMinutes; m++) {
                trial.passMinute();
                if (trial.thoseWho(SLEEPS) != told[m]) {
                    return false;
                }
            }
            return true;
        }

        int fittingTraits(Room now, int child, int trait) {
            int least = trait == TRAIT_KIND || trait == TRAIT_NEED ? 1 : 0;
            int most = trait == TRAIT_KIND ? STILL : 9;
            int fitting = 0;
            for (int value = least; value <= most; value++) {
                trial.become(now);
                traitsOf(trial, trait)[child] = value;
                if (goesAsTold()) {
                    fitting |= 1 << value;
                }
            }
            return fitting;
        }

        private static int[] traitsOf(Room room, int trait) {
            switch (trait) {
                case TRAIT_KIND: return room.kinds;
                case TRAIT_NEED: return room.needs;
                case TRAIT_HOLDS: return room.holds;
                default: return room.voices;
            }
        }

        int fittingHands(Room now) {
            int fitting = 0;
            for (int c = 0; c < now.children; c++) {
                trial.become(now);
                trial.held |= 1 << c;
                if (goesAsTold()) {
                    fitting |= 1 << c;
                }
            }
            trial.become(now);
            return goesAsTold() ? fitting | AS_IT_IS : fitting;
        }

        void countCases(Room now, int noise, int n, int p) {
            branches[0].become(now);
            casesAbove = casesAsleep(0, noise, n, p);
            casesBelow = 1;
            for (int m = 0; m < n; m++) {
                casesBelow *= CASES;
            }
            cancel(n);
        }

        /** Of 10 cases for each minute that is left, those in which all sleep in the end. */
        private long casesAsleep(int depth, int noise, int n, int p) {
            Room here = branches[depth];
            if (depth >= n || depth >= LORRY_MINUTES) {
                return here.sleepAll(here.everybody() & ~here.away) ? 1 : 0;
            }
            Room next = branches[depth + 1];
            next.become(here);
            int woken = next.passLorry(noise);
            next.passMinute();
            // A lorry that wakes nobody leaves all as without it: one branch stands for both.
            int weight = woken == 0 ? CASES : p;
            long cases = weight == 0 ? 0 : weight * casesAsleep(depth + 1, noise, n, p);
            if (weight < CASES) {
                next.become(here);
                next.passMinute();
                cases += (CASES - weight) * casesAsleep(depth + 1, noise, n, p);
            }
            return cases;
        }

        /** Below stands 10, n times with itself: it has no divisors but n twos and n fives. */
        private void cancel(int n) {
            if (casesAbove == 0) {
                casesBelow = 1;
            }
            for (int m = 0; m < n; m++) {
                cancelBy(2);
                cancelBy(5);
            }
        }

        private void cancelBy(int divisor) {
            if (divisor != 0 && casesAbove % divisor == 0 && casesBelow % divisor == 0) {
                casesAbove /= divisor;
                casesBelow /= divisor;
            }
        }

        /** Leaves the day's end on the trial: in how many minutes somebody cried. */
        int drawDay(Room now, int n, int seed) {
            trial.become(now);
            long x = seed;
            int loudMinutes = 0;
            for (int m = 0; m < n; m++) {
                x = x * FACTOR % MODULUS;
                if (x % 6 == 0) {
                    trial.passLorry((int) (x % 20));
                }
                if (x % 7 == 0 && trial.children > 0) {
                    trial.away |= 1 << (int) (x % trial.children);
                }
                trial.passMinute();
                loudMinutes += trial.thoseWho(CRIES) != 0 ? 1 : 0;
            }
            return loudMinutes;
        }
    }

    /** The bodies of the asks, and the numbers that they leave. */
    private static final class Asks {
        private static final int DEEPEST = 16;
        /** By kind, the body told for it; 0: none, that of the kind above begins. */
        private static final int[] SIZE_BODIES = {10, 11, 12, 0, 13, 14};
        private static final int[] MARK_BODIES = {20, 21, 24, 22, 23, 0};

        final int[] numbers = new int[TRACE];
        int traced;
        private int number;
        private int need;
        private int noise;
        private int sizeBody;
        private int markBody;

        int answer(Room room, int one, int what) {
            traced = 0;
            number = one;
            need = room.needs[one];
            noise = room.noiseAt(one, room.heardCriers());
            sizeBody = nearest(SIZE_BODIES, room.kinds[one]);
            markBody = nearest(MARK_BODIES, room.kinds[one]);
            return give(what == 0 ? sizeBody : markBody, 0);
        }

        private static int nearest(int[] bodies, int kind) {
            int at = kind;
            for (int step = 0; step < ABOVE.length && at > 0 && at < bodies.length; step++) {
                if (bodies[at] != 0) {
                    return bodies[at];
                }
                at = ABOVE[at];
            }
            return bodies[0];
        }

        private int give(int body, int depth) {
            if (depth > DEEPEST) {
                return 0;
            }
            leave(body);
            int deeper = depth + 1;
            switch (body) {
                case 10: return need;
                case 11: return give(10, deeper) + give(markBody, deeper);
                case 12: return -give(11, deeper);
                case 13: return give(10, deeper) - 100;
                case 14: return 2 * give(13, deeper);
                case 20: return number;
                case 21: return give(20, deeper) + noise;
                case 22: return give(21, deeper) - 1000;
                case 23: return give(20, deeper) - give(sizeBody, deeper);
                case 24: return 2 * give(21, deeper);
                default: return 0;
            }
        }

        private void leave(int body) {
            if (traced < TRACE) {
                numbers[traced] = body;
                traced++;
            }
        }
    }
}
