import java.math.BigInteger;
import java.util.ArrayDeque;
import java.util.ArrayList;
import java.util.Arrays;
import java.util.Comparator;
import java.util.Deque;
import java.util.List;
import java.util.function.Consumer;
import java.util.regex.Matcher;
import java.util.regex.Pattern;

/** The document a second time, written for plainness and not for the rules of the language: what ModelTest expects. */
final class Model {
    static final int NONE = -1000000, BAD = -1000001, STATE = -1000002, FULL = -1000003;
    static final int NULL = 1, PLACE = 2, KIND = 3, SIZE = 4, STORE = 5;

    enum Is { LIES, CRIES, SLEEPS }

    /** The kinds as Java has them: what is lent is a default, what is told is overridden. */
    interface Asked {
        Child me();
        default int size() { me().in.trace.add(10); return me().need; }
        default int mark() { me().in.trace.add(20); return me().number; }
    }
    static class Plain implements Asked {
        final Child me;
        Plain(Child me) { this.me = me; }
        public Child me() { return me; }
        public int size() { me.in.trace.add(11); return Asked.super.size() + mark(); }
        public int mark() { me.in.trace.add(21); return Asked.super.mark() + me.noise(); }
    }
    static final class Loud extends Plain {
        Loud(Child me) { super(me); }
        public int size() { me.in.trace.add(12); return -super.size(); }
        public int mark() { me.in.trace.add(24); return super.mark() * 2; }
    }
    static final class Song extends Plain {
        Song(Child me) { super(me); }
        public int mark() { me.in.trace.add(22); return super.mark() - 1000; }
    }
    static class Deep implements Asked {
        final Child me;
        Deep(Child me) { this.me = me; }
        public Child me() { return me; }
        public int size() { me.in.trace.add(13); return Asked.super.size() - 100; }
        public int mark() { me.in.trace.add(23); return Asked.super.mark() - size(); }
    }
    static final class Still extends Deep {
        Still(Child me) { super(me); }
        public int size() { me.in.trace.add(14); return super.size() * 2; }
    }

    static final class Child {
        Place in;
        int number, kind, need, holds, voice, cot, left, calm;
        Is is = Is.LIES;
        boolean hand, out;

        Child copyInto(Place place) {
            Child c = new Child();
            c.in = place; c.number = number; c.kind = kind; c.need = need; c.holds = holds; c.voice = voice;
            c.cot = cot; c.left = left; c.calm = calm; c.is = is; c.hand = hand; c.out = out;
            return c;
        }
        Asked asked() {
            switch (kind) {
                case 1: return new Plain(this);
                case 2: return new Loud(this);
                case 3: return new Song(this);
                case 4: return new Deep(this);
                default: return new Still(this);
            }
        }
        int bears() { return asked() instanceof Deep ? holds + holds : holds; }
        int noise() {
            int sum = 0;
            for (Child c : in.children) {
                if (c == this || c.out || c.is != Is.CRIES) continue;
                int calls = c.kind == 2 ? c.voice + c.voice : c.voice;
                int far = c.cot > cot ? c.cot - cot : cot - c.cot;
                if (calls > far) sum += calls - far;
            }
            return sum;
        }
        void cry() { is = Is.CRIES; left = in.cries; calm = 0; }
        void lie() { is = Is.LIES; left = 0; calm = 0; }
        void wake() { if (kind == 5) lie(); else cry(); }
    }

    static final class Place {
        final List<Child> children = new ArrayList<>();
        final List<Integer> trace = new ArrayList<>();
        int women, cries, minute;

        Place copy() {
            Place p = new Place();
            p.women = women; p.cries = cries; p.minute = minute;
            for (Child c : children) p.children.add(c.copyInto(p));
            return p;
        }
        Place then(Consumer<Place> what) { Place p = copy(); what.accept(p); return p; }
        Child get(int c) { return children.get(c); }
        int bits(java.util.function.Predicate<Child> who) {
            int set = 0;
            for (Child c : children) if (who.test(c)) set += 1 << c.number;
            return set;
        }
        int sleepers() { return bits(c -> c.is == Is.SLEEPS); }
        long howMany(Is is) { return children.stream().filter(c -> c.is == is).count(); }
        boolean allSleep() { return children.stream().allMatch(c -> c.out || c.is == Is.SLEEPS); }

        /** A minute by two rooms: what was ahead is never touched while the next is written. */
        void minute() {
            Place ahead = copy();
            for (Child c : children) {
                Child was = ahead.get(c.number);
                if (was.out) {
                    if (was.is == Is.CRIES) { c.left = was.left - 1; if (c.left < 1) c.lie(); }
                    continue;
                }
                boolean loud = was.noise() > was.bears();
                if (was.is == Is.SLEEPS) {
                    if (loud) c.wake();
                } else if (was.is == Is.CRIES) {
                    c.left = was.left - (was.hand ? 2 : 1);
                    if (c.left < 1) c.lie();
                } else {
                    int more = was.hand ? 2 : was.kind == 3 ? 0 : 1;
                    c.calm = loud ? 0 : was.calm + more;
                    if (c.calm >= c.need) c.is = Is.SLEEPS;
                }
            }
            minute++;
        }
        Place minutes(int n) { for (int i = 0; i < n; i++) minute(); return this; }
        int lorry(int noise) {
            int woke = 0;
            for (Child c : children) {
                if (!c.out && c.is == Is.SLEEPS && noise > c.bears()) { c.wake(); woke++; }
            }
            return woke;
        }
        void change(int a, int b) { int cot = get(a).cot; get(a).cot = get(b).cot; get(b).cot = cot; }
        boolean goes(int[] told) {
            Place p = copy();
            for (int t : told) { p.minute(); if (p.sleepers() != t) return false; }
            return true;
        }
    }

    static final class Row { int lane; int[] items; }

    private final Row[] rows = new Row[8];
    private final StringBuilder tape = new StringBuilder();
    private final Deque<Place> past = new ArrayDeque<>();
    private final Place[] images = new Place[2];
    private List<Integer> trace = new ArrayList<>();
    private Place now;
    private int fault, status;

    private static boolean in(int v, int low, int high) { return low <= v && v <= high; }
    private boolean child(int c) { return now != null && in(c, 0, now.children.size() - 1); }
    private int found(int f) { status = f; return -1000010 - f; }
    private int fine(int v) { status = 0; return v; }
    private void act() { past.push(now.copy()); if (past.size() > 24) past.removeLast(); }

    int row(int row, int lane, int n) {
        if (!in(row, 0, 7) || !in(lane, 0, 2) || n > 40) return BAD;
        if (n < 0) return found(SIZE);
        Row r = new Row(); r.lane = lane; r.items = new int[n]; rows[row] = r;
        return fine(n);
    }
    int set(int row, int i, int v) {
        if (!in(row, 0, 7)) return BAD;
        Row r = rows[row];
        if (r == null) return found(NULL);
        if (!in(i, 0, r.items.length - 1)) return found(PLACE);
        r.items[i] = r.lane == 0 ? v << 24 >> 24 : r.lane == 1 ? v << 16 >> 16 : v;
        return fine(r.items[i]);
    }
    int copy(int a, int i, int b, int j, int n) {
        if (!in(a, 0, 7) || !in(b, 0, 7)) return BAD;
        if (rows[a] == null || rows[b] == null) return found(NULL);
        if (rows[a].lane != rows[b].lane) return found(STORE);
        if (i < 0 || j < 0 || n < 0 || (long) i + n > rows[a].items.length || (long) j + n > rows[b].items.length)
            return found(PLACE);
        int[] were = rows[a].items.clone();
        for (int k = 0; k < n; k++) rows[b].items[j + k] = were[i + k];
        return fine(n);
    }
    int drop(int row) {
        if (!in(row, 0, 7)) return BAD;
        if (rows[row] == null) return found(NULL);
        int n = rows[row].items.length;
        rows[row] = null;
        return fine(n);
    }

    int feed(int letter) {
        if (!in(letter, 0, 255)) return BAD;
        if (tape.length() == 120) return FULL;
        tape.append((char) letter);
        return tape.length();
    }

    private static final class Fault extends RuntimeException {
        final int place, number;
        Fault(int place, int number) { super(null, null, false, false); this.place = place; this.number = number; }
    }
    private static final Pattern TOKEN = Pattern.compile("[a-z]|[0-9]+|[,;]", Pattern.DOTALL);
    private String text;
    private int at;

    private String token() {
        if (at == text.length()) throw new Fault(at, 1);
        Matcher m = TOKEN.matcher(text).region(at, text.length());
        if (!m.lookingAt()) throw new Fault(at, 1);
        return m.group();
    }
    private void sign(String want) {
        if (!token().equals(want)) throw new Fault(at, 1);
        at++;
    }
    private int number(int low, int high) {
        String t = token();
        if (!t.matches("[0-9]{1,2}")) throw new Fault(at, 1);
        int v = Integer.parseInt(t);
        if (!in(v, low, high)) throw new Fault(at, 2);
        at += t.length();
        return v;
    }
    private void child(Place p) {
        int kind = "plsdt".indexOf(token()) + 1;
        if (kind == 0 || token().length() != 1) throw new Fault(at, 1);
        if (p.children.size() == 7) throw new Fault(at, 3);
        at++;
        Child c = new Child();
        c.in = p; c.number = p.children.size(); c.cot = c.number; c.kind = kind;
        c.need = number(1, 9); sign(",");
        c.holds = number(0, 9); sign(",");
        c.voice = number(0, 9); sign(";");
        p.children.add(c);
    }
    int room() {
        text = tape.toString(); at = 0; tape.setLength(0);
        try {
            Place p = new Place();
            sign("k"); p.women = number(0, 3); sign(","); p.cries = number(1, 9); sign(";");
            do child(p); while (at < text.length());
            now = p;
            past.clear();
            return p.children.size();
        } catch (Fault f) {
            fault = f.number;
            return -1000100 - f.place;
        }
    }
    int fault() { return fault; }
    int undo() {
        if (past.isEmpty()) return STATE;
        now = past.pop();
        return past.size();
    }

    int minutes(int n) {
        if (now == null) return STATE;
        if (!in(n, 1, 24)) return BAD;
        if (now.minute + n > 999) return FULL;
        for (int i = 0; i < n; i++) { act(); now.minute(); }
        return now.sleepers();
    }
    int hand(int child, int on) {
        if (!child(child) || !in(on, 0, 1)) return BAD;
        if (now.get(child).hand == (on == 1)) return STATE;
        if (on == 1 && now.children.stream().filter(c -> c.hand).count() == now.women) return FULL;
        act();
        now.get(child).hand = on == 1;
        return now.bits(c -> c.hand);
    }
    int carry(int child, int out) {
        if (!child(child) || !in(out, 0, 1)) return BAD;
        if (now.get(child).out == (out == 1)) return STATE;
        act();
        now.get(child).out = out == 1;
        return now.bits(c -> c.out);
    }
    int change(int child, int other) {
        if (!child(child) || !child(other) || child == other) return BAD;
        act();
        now.change(child, other);
        return now.get(child).cot;
    }
    int lorry(int noise) {
        if (now == null) return STATE;
        if (!in(noise, 0, 99)) return BAD;
        act();
        return now.lorry(noise);
    }
    int need(int child, int n) {
        if (!child(child) || !in(n, 1, 9)) return BAD;
        act();
        int was = now.get(child).need;
        now.get(child).need = n;
        return was;
    }
    int child(int child, int what) {
        if (!child(child) || !in(what, 0, 7)) return BAD;
        Child c = now.get(child);
        return new int[] {c.need, c.holds, c.voice, c.cot, c.is.ordinal(), c.left, c.calm, c.noise()}[what];
    }
    int stand(int what) {
        if (now == null) return STATE;
        if (!in(what, 0, 4)) return BAD;
        return now.bits(c -> what == 3 ? c.out : what == 4 ? c.hand : c.is.ordinal() == what);
    }

    int ahead(int n, int how) {
        if (now == null) return STATE;
        if (!in(n, 0, 60) || !in(how, 0, 2)) return BAD;
        return now.copy().minutes(n).bits(c -> c.is.ordinal() == how);
    }
    int noise(int child, int n) {
        if (!child(child) || !in(n, 0, 60)) return BAD;
        return now.copy().minutes(n).get(child).noise();
    }
    int asleep(int child) {
        if (!child(child)) return BAD;
        for (int n = 0; n <= 60; n++) if (now.copy().minutes(n).get(child).is == Is.SLEEPS) return n;
        return NONE;
    }
    int allAsleep() {
        if (now == null) return STATE;
        for (int n = 0; n <= 60; n++) if (now.copy().minutes(n).allSleep()) return n;
        return NONE;
    }
    int dinner(int n) {
        if (now == null) return STATE;
        if (!in(n, 1, 60)) return BAD;
        StringBuilder all = new StringBuilder();
        Place p = now.copy();
        for (int m = 1; m <= n; m++) { p.minute(); all.append(p.allSleep() ? 'x' : ' '); }
        return Arrays.stream(all.toString().split(" ")).mapToInt(String::length).max().orElse(0);
    }
    private int all() { return (1 << now.children.size()) - 1; }
    private static boolean on(int set, Child c) { return (set & 1 << c.number) != 0; }

    int hands(int n, int what) {
        if (now == null) return STATE;
        if (!in(n, 1, 30) || !in(what, 0, 1)) return BAD;
        List<int[]> plans = new ArrayList<>();
        for (int set = all(); set >= 0; set--) {
            if (Integer.bitCount(set) > now.women) continue;
            int s = set;
            Place p = now.then(q -> q.children.forEach(c -> c.hand = on(s, c))).minutes(n);
            plans.add(new int[] {(int) p.howMany(Is.SLEEPS), set, Integer.bitCount(set)});
        }
        plans.sort(Comparator.<int[]>comparingInt(p -> -p[0]).thenComparingInt(p -> p[2]).thenComparingInt(p -> p[1]));
        return plans.get(0)[what];
    }
    int outs(int n, int what) {
        if (now == null) return STATE;
        if (!in(n, 1, 30) || !in(what, 0, 1)) return BAD;
        List<int[]> plans = new ArrayList<>();
        for (int set = all(); set >= 0; set--) {
            int s = set;
            if (now.children.stream().anyMatch(c -> c.out && on(s, c))) continue;
            Place p = now.then(q -> q.children.forEach(c -> c.out |= on(s, c))).minutes(n);
            if (p.allSleep()) plans.add(new int[] {Integer.bitCount(set), set});
        }
        plans.sort(Comparator.<int[]>comparingInt(p -> p[0]).thenComparingInt(p -> p[1]));
        return plans.get(0)[what];
    }
    int best(int n, int what) {
        if (now == null) return STATE;
        if (!in(n, 1, 30) || !in(what, 0, 1)) return BAD;
        int[] plan = null;
        for (int pair = 0; pair < 67; pair++) {
            int a = pair / 10, b = pair % 10;
            if (a >= b || b >= now.children.size()) continue;
            int sleep = (int) now.then(q -> q.change(a, b)).minutes(n).howMany(Is.SLEEPS);
            if (plan == null || sleep > plan[1]) plan = new int[] {pair, sleep};
        }
        return plan == null ? NONE : plan[what];
    }
    int silence() {
        if (now == null) return STATE;
        int noise = 99;
        while (now.copy().lorry(noise) > 0) noise--;
        return noise;
    }
    int wakes(int child) {
        if (!child(child)) return BAD;
        if (now.get(child).out) return STATE;
        Place as = now.copy().minutes(1);
        Place cried = now.then(q -> q.get(child).cry()).minutes(1);
        return as.bits(c -> c.number != child && c.is == Is.SLEEPS && cried.get(c.number).is != Is.SLEEPS);
    }
    int loudest() {
        if (now == null) return STATE;
        int most = now.children.stream().mapToInt(Child::noise).max().orElse(0);
        return now.children.stream().filter(c -> c.noise() == most).findFirst().get().number;
    }
    private int toldBadly(int row, int i, int n) {
        if (rows[row] == null) return NULL;
        return i < 0 || (long) i + n > rows[row].items.length ? PLACE : 0;
    }
    int who(int child, int which, int row, int i, int n) {
        if (!child(child) || !in(which, 0, 3) || !in(row, 0, 7) || !in(n, 1, 12)) return BAD;
        if (toldBadly(row, i, n) != 0) return found(toldBadly(row, i, n));
        int[] told = Arrays.copyOfRange(rows[row].items, i, i + n);
        int fits = 0;
        for (int v = which < 2 ? 1 : 0; v <= (which == 0 ? 5 : 9); v++) {
            int value = v;
            Place p = now.then(q -> {
                Child c = q.get(child);
                if (which == 0) c.kind = value;
                if (which == 1) c.need = value;
                if (which == 2) c.holds = value;
                if (which == 3) c.voice = value;
            });
            if (p.goes(told)) fits += 1 << v;
        }
        return fine(fits);
    }
    int held(int row, int i, int n) {
        if (now == null) return STATE;
        if (!in(row, 0, 7) || !in(n, 1, 12)) return BAD;
        if (toldBadly(row, i, n) != 0) return found(toldBadly(row, i, n));
        int[] told = Arrays.copyOfRange(rows[row].items, i, i + n);
        int fits = now.goes(told) ? 128 : 0;
        for (Child c : now.children) if (now.then(q -> q.get(c.number).hand = true).goes(told)) fits += 1 << c.number;
        return fine(fits);
    }
    long lorries(int noise, int n, int p, int what) {
        if (now == null) return STATE;
        if (!in(noise, 0, 99) || !in(n, 0, 8) || !in(p, 0, 10) || !in(what, 0, 1)) return BAD;
        BigInteger cases = BigInteger.ZERO;
        for (int days = 0; days < 1 << n; days++) {
            Place q = now.copy();
            BigInteger weight = BigInteger.ONE;
            for (int m = 0; m < n; m++) {
                boolean comes = (days >> m & 1) == 1;
                weight = weight.multiply(BigInteger.valueOf(comes ? p : 10 - p));
                if (comes) q.lorry(noise);
                q.minute();
            }
            if (q.allSleep()) cases = cases.add(weight);
        }
        BigInteger of = BigInteger.TEN.pow(n), g = cases.gcd(of);
        return (what == 0 ? cases : of).divide(g).longValueExact();
    }
    int drawn(int n, int seed, int what) {
        if (now == null) return STATE;
        if (!in(n, 0, 60) || !in(seed, 1, 999999) || !in(what, 0, 1)) return BAD;
        Place p = now.copy();
        BigInteger x = BigInteger.valueOf(seed);
        int cried = 0;
        for (int m = 0; m < n; m++) {
            x = x.multiply(BigInteger.valueOf(16807)).mod(BigInteger.valueOf(2147483647));
            int v = x.intValueExact();
            if (v % 6 == 0) p.lorry(v % 20);
            if (v % 7 == 0) p.get(v % p.children.size()).out = true;
            p.minute();
            if (p.howMany(Is.CRIES) > 0) cried++;
        }
        return what == 0 ? (int) p.howMany(Is.SLEEPS) : cried;
    }
    int image(int k) {
        if (!in(k, 0, 1)) return BAD;
        if (now == null) return STATE;
        images[k] = now.copy();
        return 1;
    }
    int restore(int k) {
        if (!in(k, 0, 1)) return BAD;
        if (images[k] == null) return STATE;
        now = images[k].copy();
        past.clear();
        return 1;
    }

    int kind(int one) { return child(one) ? now.get(one).kind : BAD; }
    int as(int one, int kind) {
        if (!child(one) || !in(kind, 0, 5)) return BAD;
        Class<?>[] kinds = {Asked.class, Plain.class, Loud.class, Song.class, Deep.class, Still.class};
        return kinds[kind].isInstance(now.get(one).asked()) ? fine(one) : found(KIND);
    }
    int ask(int one, int what) {
        if (!child(one) || !in(what, 0, 1)) return BAD;
        Place p = now.copy();
        Asked asked = p.get(one).asked();
        int answer = what == 0 ? asked.size() : asked.mark();
        trace = p.trace;
        return answer;
    }
    int trace(int i) { return in(i, 0, Math.min(16, trace.size()) - 1) ? trace.get(i) : NONE; }
    int count(int what) {
        switch (what) {
            case 0: return (int) Arrays.stream(rows).filter(r -> r != null).count();
            case 6: return past.size();
            case 7: return tape.length();
            default: if (!in(what, 0, 7)) return BAD;
        }
        if (now == null) return 0;
        switch (what) {
            case 1: return now.children.size();
            case 2: return now.minute;
            case 3: return (int) now.howMany(Is.SLEEPS);
            case 4: return (int) now.howMany(Is.CRIES);
            default: return (int) now.children.stream().filter(c -> c.out).count();
        }
    }
    int status() { return status; }
}
