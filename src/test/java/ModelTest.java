import java.util.Random;

/** Runs of 512 calls on a new object, by fixed seeds, each answer against that of the Model. */
public final class ModelTest {
    private static final int RUNS = 1500, CALLS = 512;
    private static final int[] WILD = {Integer.MIN_VALUE, -1000001, -1, 0, 1, 2, 7, 8, 9, 10, 12, 13, 24, 25, 30, 31,
        40, 41, 60, 61, 99, 100, 255, 256, 999999, 1000000, Integer.MAX_VALUE - 7, Integer.MAX_VALUE};

    private final Due due;
    private final Random random;
    private final AsleepCots x = new AsleepCots();
    private final Model model = new Model();
    private final int run;
    private int calls;

    private ModelTest(Due due, int run) {
        this.due = due;
        this.run = run;
        this.random = new Random(run);
    }

    public static void main(String[] args) {
        Due due = new Due("ModelTest");
        for (int run = 0; run < RUNS && due.wrong() < 40; run++) {
            new ModelTest(due, run).go();
        }
        due.end();
    }

    private void go() {
        if (random.nextInt(20) > 0) {
            tellRoom();
        }
        for (int turn = 0; turn < CALLS && calls < CALLS; turn++) {
            int dice = random.nextInt(100);
            if (dice < 2) {
                tellRoom();
            } else if (dice < 8) {
                tellRow();
            } else if (dice < 45) {
                act();
            } else {
                look();
            }
        }
    }

    private void is(String call, long got, long want) {
        calls++;
        due.is("run " + run + ", call " + calls + ", " + call, got, want);
    }

    /** As told mostly, one beside the ends now and then, sometimes anything. */
    private int any(int low, int high) {
        int dice = random.nextInt(60);
        if (dice == 0) {
            return WILD[random.nextInt(WILD.length)];
        }
        if (dice == 1) {
            return random.nextBoolean() ? low - 1 : high + 1;
        }
        if (dice < 6) {
            return random.nextBoolean() ? low : high;
        }
        return low + random.nextInt(high - low + 1);
    }

    private int one() {
        int children = model.count(1);
        return any(0, Math.max(0, children - 1));
    }

    private void tellRoom() {
        String text = text();
        for (int i = 0; i < text.length() && i < 130; i++) {
            int letter = text.charAt(i);
            is("feed " + letter, x.feed(letter), model.feed(letter));
        }
        is("room of " + text, x.room(), model.room());
        is("fault", x.fault(), model.fault());
    }

    private String number(int low, int high) {
        int dice = random.nextInt(150);
        if (dice == 0) {
            return String.valueOf(high + 1 + random.nextInt(120));
        }
        int v = low + random.nextInt(high - low + 1);
        return dice < 15 ? "0" + v : String.valueOf(v);
    }

    private String text() {
        StringBuilder b = new StringBuilder("k").append(number(0, 3)).append(',').append(number(1, 9)).append(';');
        int children = 1 + random.nextInt(random.nextInt(12) == 0 ? 11 : 7);
        boolean light = random.nextBoolean();
        for (int c = 0; c < children; c++) {
            b.append("plsdt".charAt(random.nextInt(5))).append(number(1, light ? 3 : 9)).append(',');
            b.append(number(0, light ? 4 : 9)).append(',').append(number(0, 9)).append(';');
        }
        if (random.nextInt(8) == 0) {
            int place = random.nextInt(b.length());
            switch (random.nextInt(4)) {
                case 0: b.deleteCharAt(place); break;
                case 1: b.insert(place, letter()); break;
                case 2: b.setCharAt(place, letter()); break;
                default: b.setLength(place); break;
            }
        }
        return b.toString();
    }

    private char letter() {
        return random.nextInt(4) == 0 ? (char) random.nextInt(256) : "kplsdt,;019 -K".charAt(random.nextInt(14));
    }

    /** Rows that fit come from what the model foretells, at times with one hand more, or one bit changed. */
    private void tellRow() {
        int row = random.nextInt(8);
        int n = random.nextInt(15);
        int lane = random.nextInt(3);
        is("row", x.row(row, lane, n), model.row(row, lane, n));
        for (int i = 0; i < n; i++) {
            int sleep = model.ahead(i + 1, 2);
            int v = sleep < 0 ? random.nextInt() : random.nextInt(40) == 0 ? sleep ^ 1 << random.nextInt(8) : sleep;
            is("set", x.set(row, i, v), model.set(row, i, v));
        }
        int one = one();
        int which = any(0, 3);
        is("who", x.who(one, which, row, 0, n), model.who(one, which, row, 0, n));
        is("held", x.held(row, 0, n), model.held(row, 0, n));
    }

    private void act() {
        int a = one();
        int b = any(0, 1);
        switch (random.nextInt(16)) {
            case 0: case 1: case 2:
                a = random.nextInt(5) == 0 ? any(1, 24) : any(1, 4);
                is("minutes " + a, x.minutes(a), model.minutes(a)); break;
            case 3: case 4: is("hand " + a + " " + b, x.hand(a, b), model.hand(a, b)); break;
            case 5: is("carry " + a + " 1", x.carry(a, 1), model.carry(a, 1)); break;
            case 6: case 7: is("carry " + a + " " + b, x.carry(a, b), model.carry(a, b)); break;
            case 8: b = one(); is("change " + a + " " + b, x.change(a, b), model.change(a, b)); break;
            case 9: case 10:
                a = random.nextBoolean() ? any(0, 19) : any(0, 99);
                is("lorry " + a, x.lorry(a), model.lorry(a)); break;
            case 11: b = any(1, 9); is("need " + a + " " + b, x.need(a, b), model.need(a, b)); break;
            case 12: is("undo", x.undo(), model.undo()); break;
            case 13: a = any(0, 1); is("image " + a, x.image(a), model.image(a)); break;
            case 14: a = any(0, 1); is("restore " + a, x.restore(a), model.restore(a)); break;
            default: actOnRows(); break;
        }
        is("SLEEP", x.stand(2), model.stand(2));
        is("CRY", x.stand(1), model.stand(1));
    }

    private void actOnRows() {
        int a = any(0, 7);
        int i = any(0, 14);
        int v = random.nextBoolean() ? any(0, 127) : random.nextInt();
        switch (random.nextInt(8)) {
            case 0: is("drop", x.drop(a), model.drop(a)); break;
            case 1: is("row", x.row(a, 1, -1), model.row(a, 1, -1)); break;
            case 2: v = any(0, 40); is("row", x.row(a, any01(), v), model.row(a, last01, v)); break;
            case 3: case 4: is("set", x.set(a, i, v), model.set(a, i, v)); break;
            default:
                int b = random.nextInt(3) == 0 ? a : any(0, 7);
                int j = any(0, 6);
                int n = any(0, 8);
                i = any(0, 6);
                is("copy", x.copy(a, i, b, j, n), model.copy(a, i, b, j, n)); break;
        }
        is("status", x.status(), model.status());
    }

    private int last01;

    private int any01() {
        last01 = any(0, 2);
        return last01;
    }

    private void look() {
        int a = one();
        int b = any(0, 1);
        int n = any(0, 60);
        switch (random.nextInt(27)) {
            case 0: case 1: b = any(0, 7); is("child " + a + " " + b, x.child(a, b), model.child(a, b)); break;
            case 2: b = any(0, 4); is("stand " + b, x.stand(b), model.stand(b)); break;
            case 3: b = any(0, 2); is("ahead " + n + " " + b, x.ahead(n, b), model.ahead(n, b)); break;
            case 4: n = any(0, 9); is("noise " + a + " " + n, x.noise(a, n), model.noise(a, n)); break;
            case 5: is("noise " + a + " " + n, x.noise(a, n), model.noise(a, n)); break;
            case 6: is("asleep " + a, x.asleep(a), model.asleep(a)); break;
            case 7: is("allAsleep", x.allAsleep(), model.allAsleep()); break;
            case 8: is("dinner " + n, x.dinner(n), model.dinner(n)); break;
            case 9: n = plan(); is("hands " + n + " " + b, x.hands(n, b), model.hands(n, b)); break;
            case 10: n = plan(); is("outs " + n + " " + b, x.outs(n, b), model.outs(n, b)); break;
            case 11: case 12: n = plan(); is("best " + n + " " + b, x.best(n, b), model.best(n, b)); break;
            case 13: is("silence", x.silence(), model.silence()); break;
            case 14: is("wakes " + a, x.wakes(a), model.wakes(a)); break;
            case 15: is("loudest", x.loudest(), model.loudest()); break;
            case 16: lookLorries(b); break;
            case 17: int s = any(1, 999999); is("drawn", x.drawn(n, s, b), model.drawn(n, s, b)); break;
            case 18: is("kind " + a, x.kind(a), model.kind(a)); break;
            case 19: b = any(0, 5); is("as " + a + " " + b, x.as(a, b), model.as(a, b)); break;
            case 20: is("ask " + a + " " + b, x.ask(a, b), model.ask(a, b)); break;
            case 21: b = any(0, 7); is("trace " + b, x.trace(b), model.trace(b)); break;
            case 22: b = any(0, 7); is("count " + b, x.count(b), model.count(b)); break;
            case 23: is("status", x.status(), model.status()); break;
            case 24: is("fault", x.fault(), model.fault()); break;
            case 25: lookWho(a); break;
            default: lookHeld(); break;
        }
    }

    private int plan() {
        return random.nextInt(3) == 0 ? any(1, 30) : any(1, 6);
    }

    private void lookLorries(int what) {
        int noise = any(0, 19);
        int n = any(0, 5);
        if (random.nextInt(10) == 0) {
            n = any(0, 8);
        }
        int p = any(0, 10);
        is("lorries " + noise + " " + n + " " + p, x.lorries(noise, n, p, what), model.lorries(noise, n, p, what));
    }

    private void lookWho(int one) {
        int which = any(0, 3);
        int row = any(0, 7);
        int i = any(0, 3);
        int n = any(1, 12);
        is("who", x.who(one, which, row, i, n), model.who(one, which, row, i, n));
        is("status", x.status(), model.status());
    }

    private void lookHeld() {
        int row = any(0, 7);
        int i = any(0, 3);
        int n = any(1, 12);
        is("held", x.held(row, i, n), model.held(row, i, n));
        is("status", x.status(), model.status());
    }
}
