import java.util.function.ToLongFunction;

/** The edges of what is foretold: promises 18 to 28, 31 and 32. */
final class ForetoldEdges {
    private static final int NONE = Edges.NONE, BAD = Edges.BAD, STATE = Edges.STATE;
    private static final String SONGS = "s2,0,0;".repeat(7);
    private final Edges e;

    ForetoldEdges(Edges e) {
        this.e = e;
    }

    void all() {
        ahead();
        noise();
        asleep();
        allAsleep();
        dinner();
        handsFor();
        handsOfSeveral();
        outsFor();
        outsOfSeveral();
        best();
        silence();
        wakes();
        loudest();
        lorryRanges();
        lorryFractions();
        lorryCases();
        drawnRanges();
        drawnDays();
        nothingChanges();
        changesNothing();
    }

    private void noRoom(int promise, ToLongFunction<AsleepCots> good, ToLongFunction<AsleepCots> bad) {
        e.edge(promise, "STATE: no ROOM (ahead of BAD)");
        e.is("as told", good.applyAsLong(Edges.none()), STATE);
        e.is("not as told", bad.applyAsLong(Edges.none()), STATE);
    }

    private void ahead() {
        e.edge(18, "BAD;");
        e.range("n", 0, 60, n -> Edges.room(Edges.SEVEN).ahead(n, 0));
        e.range("how", 0, 2, how -> Edges.room(Edges.SEVEN).ahead(1, how));
        e.edge(18, "AHEAD by n MINUTES (0 to 60): who SLEEPS, CRIES, LIES (bits)");
        AsleepCots x = Edges.ring();
        int[] minutes = {0, 1, 2, 3, 4, 58, 59, 60};
        int[] sleep = {126, 124, 60, 31, 30, 60, 31, 30};
        int[] cry = {1, 2, 64, 32, 1, 64, 32, 1};
        for (int k = 0; k < minutes.length; k++) {
            e.is("SLEEPS, " + minutes[k], x.ahead(minutes[k], 2), sleep[k]);
            e.is("CRIES, " + minutes[k], x.ahead(minutes[k], 1), cry[k]);
            e.is("LIES, " + minutes[k], x.ahead(minutes[k], 0), 127 - sleep[k] - cry[k]);
        }
        e.edge(18, "AHEAD: how = 0 LIES, 1 CRIES, 2 SLEEPS");
        e.is("LIES", Edges.threeWoken().ahead(0, 0), 2);
        e.is("CRIES", Edges.threeWoken().ahead(0, 1), 1);
        e.is("SLEEPS", Edges.threeWoken().ahead(0, 2), 4);
        noRoom(18, y -> y.ahead(0, 0), y -> y.ahead(61, 3));
    }

    private void noise() {
        e.edge(19, "NOISE at the COT of a CHILD n MINUTES on (0 to 60)");
        AsleepCots x = Edges.ring();
        e.is("now", x.noise(1, 0), 8);
        e.is("59 on", x.noise(1, 59), 5);
        e.is("60 on", x.noise(1, 60), 8);
        e.is("60 on, at his own", x.noise(0, 60), 0);
        e.is("60 on, at the last", x.noise(6, 60), 3);
        x.carry(1, 1);
        e.is("at the COT of who is OUT", x.noise(1, 0), 8);
        e.edge(19, "NOISE. BAD");
        e.range("n", 0, 60, n -> Edges.room(Edges.SEVEN).noise(0, n));
        e.range("child", 0, 6, child -> Edges.room(Edges.SEVEN).noise(child, 0));
        e.is("no ROOM, no CHILD", Edges.none().noise(0, 0), BAD);
    }

    private void asleep() {
        e.edge(20, "ASLEEP: behind how many MINUTES (0: now; 60 at most) one SLEEPS first; NONE");
        AsleepCots x = Edges.ring();
        e.is("now, though he is woken", x.asleep(1), 0);
        e.is("first, though he wakes again", x.asleep(0), 3);
        e.is("one", Edges.room(Edges.SEVEN).asleep(6), 1);
        e.is("nine", Edges.room(Edges.WAKEFUL).asleep(0), 9);
        e.is("one, by CALM that he has already", calmEnough().asleep(0), 1);
        for (int left = Late.ONE; left >= 0; left--) {
            e.is("late, " + left, Late.one(left).asleep(Late.LATE_ONE), left);
        }
        x = Edges.after(Edges.SEVEN, 1);
        x.carry(2, 1);
        e.is("who is OUT and SLEEPS", x.asleep(2), 0);
        e.edge(20, "ASLEEP; NONE");
        e.is("never", Edges.room("k1,1;s1,0,0;").asleep(0), NONE);
        e.is("never in the NOISE of the ring", sleeplessInTheRing().asleep(3), NONE);
        x = Edges.room(Edges.SEVEN);
        x.carry(2, 1);
        e.is("who is OUT and LIES", x.asleep(2), NONE);
        e.edge(20, "BAD");
        e.range("child", 0, 6, child -> Edges.room(Edges.SEVEN).asleep(child));
        e.is("no ROOM, no CHILD", Edges.none().asleep(0), BAD);
    }

    /** Child 3 holds nothing and hears each of the four. */
    private static AsleepCots sleeplessInTheRing() {
        AsleepCots x = Edges.room(Edges.RING.replace("d1,9,0;d1,9,0;d1,9,0;", "d1,9,0;t2,0,0;d1,9,0;"));
        x.minutes(2);
        x.carry(6, 1);
        x.lorry(4);
        x.carry(6, 0);
        return x;
    }

    /** The song without a hand: CALM stays at 2, and that is what he needs now. */
    private static AsleepCots calmEnough() {
        AsleepCots x = Edges.room("k1,1;s3,0,0;");
        x.hand(0, 1);
        x.minutes(1);
        x.hand(0, 0);
        x.need(0, 2);
        return x;
    }

    private void allAsleep() {
        e.edge(21, "ALL: behind how many MINUTES (0: now; 60 at most) all who are not OUT SLEEP first; NONE");
        e.is("now", Edges.after(Edges.SEVEN, 1).allAsleep(), 0);
        e.is("one", Edges.room(Edges.SEVEN).allAsleep(), 1);
        e.is("one, by CALM that he has already", calmEnough().allAsleep(), 1);
        for (int left = Late.ALL; left >= 0; left--) {
            e.is("late, " + left, Late.all(left).allAsleep(), left);
        }
        AsleepCots x = Edges.room("k0,1;p1,0,0;s1,0,0;");
        x.carry(1, 1);
        e.is("the others", x.allAsleep(), 1);
        x.carry(0, 1);
        e.is("nobody is left", x.allAsleep(), 0);
        e.edge(21, "ALL; NONE");
        e.is("never, by the ring", Edges.ring().allAsleep(), NONE);
        e.is("never, by the song", Edges.room("k0,1;p1,0,0;s1,0,0;").allAsleep(), NONE);
        e.edge(21, "STATE: no ROOM");
        e.is("none", Edges.none().allAsleep(), STATE);
    }

    private void dinner() {
        e.edge(22, "DINNER. BAD;");
        e.range("n", 1, 60, n -> Edges.room(Edges.SEVEN).dinner(n));
        e.edge(22, "DINNER in n MINUTES (1 to 60)");
        AsleepCots x = Edges.after(Edges.SEVEN, 1);
        e.is("1", x.dinner(1), 1);
        e.is("60", x.dinner(60), 60);
        e.edge(22, "the most MINUTES on end behind each of which all who are not OUT SLEEP");
        x = Edges.room(Edges.WAKEFUL);
        e.is("none in 8", x.dinner(8), 0);
        e.is("one in 9", x.dinner(9), 1);
        e.is("52 in 60", x.dinner(60), 52);
        x.carry(0, 1);
        e.is("nobody is left: all 60", x.dinner(60), 60);
        e.is("never", Edges.ring().dinner(60), 0);
        x = Late.all(30);
        e.is("none in 29", x.dinner(29), 0);
        e.is("one in 30", x.dinner(30), 1);
        noRoom(22, y -> y.dinner(1), y -> y.dinner(0));
    }

    private void handsFor() {
        e.edge(23, "HANDS: how many (what = 0), which (1). BAD;");
        e.range("n", 1, 30, n -> Edges.room(Edges.SEVEN).hands(n, 0));
        e.range("what", 0, 1, what -> Edges.room(Edges.SEVEN).hands(1, what));
        e.edge(23, "HANDS for n MINUTES (1 to 30)");
        AsleepCots x = Edges.ring();
        e.is("29", x.hands(29, 0), 5);
        e.is("30", x.hands(30, 0), 4);
        e.edge(23, "how many SLEEP; which (bits)");
        x = Edges.room("k3,1;" + "p9,0,0;".repeat(6) + "s1,0,0;");
        e.is("one, the last", x.hands(1, 0) * 100 + x.hands(1, 1), 164);
        e.edge(23, "the set of WOMEN CHILDREN at most on whom hands, laid on now, and on no others, let most SLEEP behind them");
        for (int women = 0; women <= 3; women++) {
            x = Edges.room("k" + women + ",1;" + SONGS);
            e.is("how many of " + women, x.hands(1, 0), women);
            e.is("which of " + women, x.hands(1, 1), (1 << women) - 1);
        }
        x = Edges.room("k1,1;s2,0,0;s2,0,0;");
        x.hand(1, 1);
        e.is("the hand that lies is none of it", x.hands(1, 1), 1);
        e.is("one sleeps, not both", x.hands(1, 0), 1);
        noRoom(23, y -> y.hands(1, 0), y -> y.hands(0, 2));
    }

    private void handsOfSeveral() {
        e.edge(23, "of several with fewest, of these the least");
        AsleepCots x = Edges.room(Edges.WAKEFUL);
        e.is("too few MINUTES for any: none", x.hands(4, 0) * 10 + x.hands(4, 1), 0);
        e.is("a hand is wanted", x.hands(5, 0) * 10 + x.hands(5, 1), 11);
        e.is("8, a hand is wanted yet", x.hands(8, 0) * 10 + x.hands(8, 1), 11);
        e.is("9, none is wanted", x.hands(9, 0) * 10 + x.hands(9, 1), 10);
        x = Edges.room("k1,1;p1,0,0;s2,0,0;s2,0,0;");
        e.is("the least", x.hands(1, 0) * 10 + x.hands(1, 1), 22);
        // One hand, on who cries, is as good as two, on both others; as a set, two are the lesser number.
        x = Edges.after("k2,2;t2,0,0;t2,0,0;p1,0,9;", 2);
        x.lorry(1);
        e.is("all three", x.hands(3, 0), 3);
        e.is("fewest ahead of least", x.hands(3, 1), 4);
        x = Edges.after(Edges.SEVEN, 1);
        e.is("all sleep as it is", x.hands(30, 0) * 10 + x.hands(30, 1), 70);
    }

    private void outsFor() {
        e.edge(24, "OUT: how many (what = 0), which (1). BAD;");
        e.range("n", 1, 30, n -> Edges.room(Edges.SEVEN).outs(n, 0));
        e.range("what", 0, 1, what -> Edges.room(Edges.SEVEN).outs(1, what));
        e.edge(24, "OUT for n MINUTES (1 to 30)");
        e.is("29 of 30", Late.all(30).outs(29, 0), 1);
        e.is("30 of 30", Late.all(30).outs(30, 0), 0);
        e.is("30 of 31", Late.all(31).outs(30, 0), 1);
        e.edge(24, "how many; which (bits)");
        e.is("both, of the ring", Edges.ring().outs(30, 0) * 10 + Edges.ring().outs(30, 1), 11);
        e.edge(24, "the fewest to be carried OUT now (more than are) so that all others SLEEP behind them");
        AsleepCots x = Edges.room("k0,1;" + SONGS);
        e.is("all seven", x.outs(30, 0) * 1000 + x.outs(30, 1), 7127);
        x.carry(0, 1);
        e.is("six more", x.outs(30, 0) * 1000 + x.outs(30, 1), 6126);
        for (int c = 1; c <= 6; c++) {
            x.carry(c, 1);
        }
        e.is("all are", x.outs(30, 0) * 1000 + x.outs(30, 1), 0);
        x = Edges.after(Edges.SEVEN, 1);
        e.is("all sleep as it is", x.outs(1, 0) * 1000 + x.outs(1, 1), 0);
        noRoom(24, y -> y.outs(1, 0), y -> y.outs(31, -1));
    }

    private void outsOfSeveral() {
        e.edge(24, "of several the least");
        AsleepCots x = Edges.threeWoken();
        e.is("child 0 or child 1", x.outs(4, 0) * 10 + x.outs(4, 1), 11);
        // Either who cries is carried OUT, or both others, whose set is the lesser number.
        x = Edges.after("k0,2;t3,0,0;t3,0,0;p1,0,9;", 3);
        x.lorry(1);
        e.is("fewest ahead of least", x.outs(3, 0) * 10 + x.outs(3, 1), 14);
        x = Edges.after("k0,9;p1,0,9;p1,0,0;p1,0,9;p1,0,0;", 1);
        x.lorry(1);
        e.is("all four who cry", x.outs(1, 0) * 100 + x.outs(1, 1), 415);
    }

    private void best() {
        e.edge(25, "CHANGE: which (what = 0), how many (1)");
        e.range("n", 1, 30, n -> Edges.room(Edges.SEVEN).best(n, 0));
        e.range("what", 0, 1, what -> Edges.room(Edges.SEVEN).best(1, what));
        e.edge(25, "CHANGE for n MINUTES (1 to 30)");
        // Cots 1 and 2 of two songs are changed: all else goes as it is, and nine minutes are wanted.
        e.is("8", Edges.room("k0,1;p9,0,0;s1,0,0;s1,0,0;").best(8, 1), 0);
        e.is("9", Edges.room("k0,1;p9,0,0;s1,0,0;s1,0,0;").best(9, 1), 1);
        e.is("1", Edges.room("k0,1;p1,0,0;s1,0,0;s1,0,0;").best(1, 1), 1);
        e.is("30", Edges.room("k0,1;p9,0,0;s1,0,0;s1,0,0;").best(30, 1), 1);
        e.edge(25, "the pair who, changing COTS now, let most SLEEP behind them, of several the first (10 times the lesser, and the greater)");
        AsleepCots x = Edges.after(Edges.SEVEN, 1);
        e.is("all alike: the first", x.best(30, 0) * 10 + x.best(30, 1), 17);
        x = Edges.room("k0,1;s1,0,0;s1,0,0;");
        e.is("the one pair of two, whoever sleeps", x.best(1, 0) * 10 + x.best(1, 1), 10);
        // Child 5 bears 3: the cry of child 0, 9 less 6, in the last COT alone.
        x = Edges.after("k0,9;p1,0,9;s1,9,0;s1,9,0;s1,9,0;s1,9,0;p1,3,0;p1,9,0;", 1);
        x.lorry(1);
        e.is("the last pair", x.best(1, 0), 56);
        e.edge(25, "the greater); how many");
        e.is("who SLEEP", x.best(1, 1), 2);
        e.edge(25, "NONE: there is but one");
        e.is("which", Edges.room(Edges.WAKEFUL).best(1, 0), NONE);
        e.is("how many", Edges.room(Edges.WAKEFUL).best(30, 1), NONE);
        e.edge(25, "NONE. BAD");
        e.is("BAD of one, n below", Edges.room(Edges.WAKEFUL).best(0, 0), BAD);
        e.is("BAD of one, n above", Edges.room(Edges.WAKEFUL).best(31, 0), BAD);
        e.is("BAD of one, what", Edges.room(Edges.WAKEFUL).best(1, 2), BAD);
        noRoom(25, y -> y.best(1, 0), y -> y.best(31, 2));
    }

    private void silence() {
        e.edge(26, "LORRY. STATE: no ROOM");
        e.is("none", Edges.none().silence(), STATE);
        e.edge(26, "LORRY: the greatest NOISE (0 to 99) of one by which now nobody wakes");
        e.is("nobody sleeps: 99", Edges.room(Edges.SEVEN).silence(), 99);
        e.is("0", Edges.after(Edges.SEVEN, 1).silence(), 0);
        e.is("9", Edges.after("k0,1;p1,9,0;", 1).silence(), 9);
        e.is("a deep one: 18", Edges.after("k0,1;d1,9,0;", 1).silence(), 18);
        e.is("a still one: 18", Edges.after("k0,1;t1,9,0;", 1).silence(), 18);
        e.is("the lightest of them", Edges.after("k0,1;d1,9,0;p1,5,0;t1,3,0;", 1).silence(), 5);
        AsleepCots x = Edges.after("k0,1;p1,0,0;p1,4,0;", 1);
        x.carry(0, 1);
        e.is("not who is OUT", x.silence(), 4);
        e.is("nobody wakes by it", x.lorry(4), 0);
        e.is("one more wakes one", x.lorry(5), 1);
        x.carry(1, 1);
        e.is("all are OUT: 99", x.silence(), 99);
    }

    private void wakes() {
        e.edge(27, "CHILDREN (bits, himself not)");
        AsleepCots x = Edges.after("k0,1;p1,0,9;" + "p1,0,0;".repeat(6), 1);
        e.is("all six others", x.wakes(0), 126);
        e.is("one without a VOICE", x.wakes(6), 0);
        e.edge(27, "were one to CRY now (for CRIES MINUTES), would not SLEEP behind the next MINUTE, and do as it is");
        e.is("4 of 4", Edges.after("k0,1;p1,0,5;p1,4,0;", 1).wakes(0), 0);
        e.is("4 of 3", Edges.after("k0,1;p1,0,5;p1,3,0;", 1).wakes(0), 2);
        e.is("who would fall asleep, too", Edges.room("k0,1;p9,0,9;p1,0,0;p2,0,0;").wakes(0), 2);
        e.is("a still one, were he to CRY", Edges.after("k0,1;t1,0,9;p1,0,0;", 1).wakes(0), 2);
        x = Edges.after("k0,9;p1,0,9;p1,3,9;p1,9,9;", 1);
        x.lorry(1);
        e.is("who CRIES as it is", x.wakes(0), 0);
        e.is("child 1 wakes as it is; with him, 7 and 8, child 2 does, too", x.wakes(1), 4);
        e.is("child 0 would be woken by none who sleeps, as he CRIES", x.wakes(2), 0);
        x.carry(2, 1);
        e.is("not who is OUT", x.wakes(1), 0);
        e.edge(27, "STATE: he is OUT");
        e.is("OUT", x.wakes(2), STATE);
        e.is("not OUT", x.wakes(0), 0);
        e.is("BAD is first", x.wakes(3), BAD);
        e.edge(27, "WAKES. BAD;");
        e.range("child", 0, 6, child -> Edges.room(Edges.SEVEN).wakes(child));
        e.is("no ROOM, no CHILD", Edges.none().wakes(0), BAD);
    }

    private void loudest() {
        e.edge(28, "LOUDEST: the one at whose COT NOISE is most now, of several the first");
        e.is("no NOISE: the first", Edges.room(Edges.SEVEN).loudest(), 0);
        e.is("one of one", Edges.room(Edges.WAKEFUL).loudest(), 0);
        e.is("beside who cries", Edges.ring().loudest(), 1);
        AsleepCots x = Edges.after("k0,1;p1,1,0;p1,0,5;p1,1,0;", 1);
        x.lorry(1);
        e.is("4 at both: the first", x.loudest(), 0);
        x = Edges.after("k0,1;p1,0,1;" + "p1,1,0;".repeat(4) + "p1,0,9;p1,1,0;", 1);
        x.lorry(1);
        e.is("8 at 4 and at the last: the first", x.loudest(), 4);
        x.carry(4, 1);
        e.is("at the COT of who is OUT, too", x.loudest(), 4);
        x.change(4, 0);
        e.is("the first by number, not by COT", x.loudest(), 0);
        x.change(0, 3);
        e.is("3 is there now", x.loudest(), 3);
        x = Edges.after("k0,1;p1,0,9;p1,1,0;", 1);
        x.lorry(1);
        x.change(0, 1);
        e.is("the last", x.loudest(), 1);
        e.edge(28, "LOUDEST. STATE: no ROOM");
        e.is("none", Edges.none().loudest(), STATE);
    }

    /** Sleeps; once woken he does not sleep again in the next eight minutes. */
    private static AsleepCots light() {
        return Edges.after("k0,9;p9,0,0;", 9);
    }

    private void fraction(AsleepCots x, int noise, int n, int p, long above, long below) {
        e.is("above, " + noise + " " + n + " " + p, x.lorries(noise, n, p, 0), above);
        e.is("below, " + noise + " " + n + " " + p, x.lorries(noise, n, p, 1), below);
    }

    private void lorryRanges() {
        e.edge(31, "LORRIES by p of 10 (0 to 10)");
        e.range("p", 0, 10, p -> light().lorries(1, 1, p, 0));
        fraction(light(), 1, 1, 0, 1, 1);
        fraction(light(), 1, 1, 1, 9, 10);
        fraction(light(), 1, 1, 9, 1, 10);
        fraction(light(), 1, 1, 10, 0, 1);
        e.edge(31, "ahead of each of the next n MINUTES (0 to 8) a LORRY");
        e.range("n", 0, 8, n -> light().lorries(1, n, 1, 0));
        fraction(light(), 1, 0, 10, 1, 1);
        fraction(Edges.room(Edges.WAKEFUL), 1, 0, 0, 0, 1);
        fraction(Edges.room("k0,1;p8,0,0;"), 99, 7, 10, 0, 1);
        fraction(Edges.room("k0,1;p8,0,0;"), 99, 8, 10, 1, 1);
        e.edge(31, "so loud as told (0 to 99)");
        e.range("noise", 0, 99, noise -> light().lorries(noise, 1, 1, 0));
        fraction(light(), 0, 8, 10, 1, 1);
        fraction(light(), 99, 8, 1, 43046721, 100000000);
        AsleepCots deep = Edges.after("k0,9;d9,9,0;", 9);
        fraction(deep, 18, 8, 10, 1, 1);
        fraction(deep, 19, 8, 5, 1, 256);
        e.edge(31, "above (what = 0), below (1). BAD;");
        e.range("what", 0, 1, what -> light().lorries(1, 1, 1, what));
        fraction(light(), 1, 1, 3, 7, 10);
        noRoom(31, y -> y.lorries(0, 0, 0, 0), y -> y.lorries(100, 9, 11, 2));
    }

    private void lorryFractions() {
        e.edge(31, "fractions, told as two numbers in lowest terms (0 is 0 by 1)");
        fraction(light(), 1, 8, 1, 43046721, 100000000);
        fraction(light(), 1, 8, 2, 65536, 390625);
        fraction(light(), 1, 8, 5, 1, 256);
        fraction(light(), 1, 8, 6, 256, 390625);
        fraction(light(), 1, 8, 9, 1, 100000000);
        fraction(light(), 1, 8, 10, 0, 1);
        fraction(light(), 1, 8, 0, 1, 1);
        fraction(light(), 1, 2, 8, 1, 25);
        fraction(light(), 1, 3, 4, 27, 125);
        fraction(Edges.room("k0,1;s1,0,0;"), 1, 8, 3, 0, 1);
    }

    private void lorryCases() {
        e.edge(31, "in p of 10 cases, apart: how likely all who are not OUT SLEEP behind them");
        fraction(light(), 1, 2, 3, 49, 100);
        // Woken, he cries for the minute and lies; behind the next he sleeps, whatever comes.
        AsleepCots x = Edges.after("k0,1;p1,0,0;", 1);
        fraction(x, 1, 2, 4, 19, 25);
        fraction(x, 1, 2, 1, 91, 100);
        fraction(x, 1, 2, 9, 91, 100);
        fraction(x, 1, 3, 10, 0, 1);
        fraction(x, 1, 4, 10, 1, 1);
        fraction(Edges.after("k0,9;p1,0,0;p3,0,0;", 1), 1, 2, 3, 49, 100);
        fraction(Edges.after("k0,9;p1,0,0;p4,0,0;", 1), 1, 2, 3, 0, 1);
        x = Edges.after("k0,9;p9,0,0;p9,5,0;", 9);
        fraction(x, 5, 1, 3, 7, 10);
        x.carry(0, 1);
        fraction(x, 5, 1, 3, 1, 1);
        fraction(x, 6, 1, 3, 7, 10);
        x.carry(1, 1);
        fraction(x, 6, 8, 10, 1, 1);
    }

    /** Of seven, who leaves 0 by 7 is child 0: so child 1 is never carried out; he alone sleeps. */
    private static final String SLEEPER = "k0,2;s1,0,0;p1,0,0;" + "s1,0,0;".repeat(5);

    private void drawnRanges() {
        e.edge(32, "DAYS of n MINUTES (0 to 60) by a SEED (X at first)");
        e.range("n", 0, 60, n -> Edges.room(SLEEPER).drawn(n, 1, 0));
        AsleepCots x = Edges.after(SLEEPER, 1);
        e.is("none: as it is", x.drawn(0, 6, 0) * 10 + x.drawn(0, 6, 1), 10);
        x = Edges.room(SLEEPER);
        e.is("59", x.drawn(59, 19, 0) * 10 + x.drawn(59, 19, 1), 17);
        e.is("60", x.drawn(60, 19, 0) * 10 + x.drawn(60, 19, 1), 8);
        e.edge(32, "DAYS by a SEED (1 to 999999)");
        e.range("seed", 1, 999999, seed -> Edges.room(SLEEPER).drawn(1, seed, 0));
        // 16807 leaves 1 by 3, 1774597664 leaves 2 by 3; both leave 0 by 7, neither by 6.
        int[] needs = {9, 9, 9};
        for (int sleeps = 0; sleeps < 3; sleeps++) {
            needs[sleeps] = 1;
            x = Edges.room("k0,1;p" + needs[0] + ",0,0;p" + needs[1] + ",0,0;p" + needs[2] + ",0,0;");
            e.is("1, sleeps " + sleeps, x.drawn(1, 1, 0), sleeps == 1 ? 0 : 1);
            e.is("999999, sleeps " + sleeps, x.drawn(1, 999999, 0), sleeps == 2 ? 0 : 1);
            needs[sleeps] = 9;
        }
        e.edge(32, "how many (what = 0), MINUTES (1). BAD;");
        e.range("what", 0, 1, what -> Edges.room(SLEEPER).drawn(1, 1, what));
        noRoom(32, y -> y.drawn(0, 1, 0), y -> y.drawn(61, 0, 2));
    }

    private void drawnDays() {
        e.edge(32, "X becomes the rest of (X times 16807) by 2147483647");
        // From 1 the third is 1622650073, which no int times 16807 gives; then 984943658, 1144108930.
        AsleepCots x = Edges.room("k0,1;" + "p9,0,0;".repeat(7));
        e.is("nine MINUTES, child 0 OUT by the first", x.drawn(9, 1, 0), 6);
        e.is("eight", x.drawn(8, 1, 0), 0);
        e.edge(32, "if X by 6 leaves 0, a LORRY as loud as the rest of X by 20 comes");
        // From 6: 100842 leaves 0 by 6 and by 7, 2 by 20.
        e.is("2 of 2", Edges.after("k0,2;s1,0,0;p1,2,0;" + "s1,0,0;".repeat(5), 1).drawn(1, 6, 0), 1);
        e.is("2 of 1", Edges.after("k0,2;s1,0,0;p1,1,0;" + "s1,0,0;".repeat(5), 1).drawn(1, 6, 0), 0);
        e.is("somebody CRIES", Edges.after("k0,2;s1,0,0;p1,1,0;" + "s1,0,0;".repeat(5), 1).drawn(1, 6, 1), 1);
        e.edge(32, "if X by 7 leaves 0, the one who is the rest of X by how many there are is carried OUT, if he is not");
        x = Edges.room("k0,1;p1,0,0;");
        e.is("one of one", x.drawn(1, 1, 0), 0);
        x = Edges.room("k0,1;p1,0,0;p1,0,0;");
        e.is("the second of two", x.drawn(1, 1, 0), 1);
        x.carry(1, 1);
        e.is("if he is OUT, he stays so", x.drawn(2, 1, 0), 1);
        x.carry(0, 1);
        e.is("nobody is brought back", x.drawn(60, 1, 0), 0);
        e.edge(32, "how many SLEEP then; in how many of these MINUTES somebody CRIES behind them");
        x = Edges.after("k0,9;p1,2,0;p1,1,0;", 1);
        e.is("child 1 wakes, child 0 is OUT and SLEEPS", x.drawn(1, 6, 0), 1);
        e.is("child 1 CRIES", x.drawn(1, 6, 1), 1);
        x = Edges.after("k0,1;p1,2,0;p1,1,0;", 1);
        e.is("he has ceased behind it", x.drawn(1, 6, 1), 0);
        x = Edges.after("k0,9;p1,1,0;p1,2,0;", 1);
        e.is("child 0 wakes, is OUT then, and CRIES there", x.drawn(1, 6, 0) * 10 + x.drawn(1, 6, 1), 11);
    }

    private void unchanged(int promise, String name, ToLongFunction<AsleepCots> call) {
        e.edge(promise, "FORETOLD (nothing changes; hands stay where they lie)");
        AsleepCots x = Look.rich();
        long first = call.applyAsLong(x);
        e.is(name + ", a second time", call.applyAsLong(x), first);
        e.is(name + ", not refused", first < -1000000 ? 1 : 0, 0);
        e.same(name, Look.at(x), Look.at(Look.rich()));
    }

    private void nothingChanges() {
        unchanged(18, "ahead", x -> x.ahead(60, 2));
        unchanged(19, "noise", x -> x.noise(1, 60));
        unchanged(20, "asleep", x -> x.asleep(1));
        unchanged(21, "allAsleep", x -> x.allAsleep());
        unchanged(22, "dinner", x -> x.dinner(60));
        unchanged(23, "hands", x -> x.hands(30, 1));
        unchanged(24, "outs", x -> x.outs(30, 1));
        unchanged(25, "best", x -> x.best(30, 1));
        unchanged(26, "silence", x -> x.silence());
        unchanged(27, "wakes", x -> x.wakes(1));
        unchanged(28, "loudest", x -> x.loudest());
        unchanged(29, "who", x -> x.who(0, 0, 0, 0, 3));
        unchanged(30, "held", x -> x.held(0, 0, 3));
        unchanged(31, "lorries", x -> x.lorries(99, 8, 5, 0));
        unchanged(32, "drawn", x -> x.drawn(60, 6, 0));
        e.edge(18, "hands stay where they lie");
        AsleepCots x = Edges.room(Edges.WAKEFUL);
        e.is("without a hand", x.ahead(5, 2), 0);
        x.hand(0, 1);
        e.is("with one", x.ahead(5, 2), 1);
        x.minutes(2);
        e.is("from CALM 4 on", x.asleep(0), 3);
    }

    private void changesNothing() {
        e.refused(18, "ahead(61, 0)", BAD, x -> x.ahead(61, 0));
        e.refused(19, "noise(0, 61)", BAD, x -> x.noise(0, 61));
        e.refused(20, "asleep(3)", BAD, x -> x.asleep(3));
        e.refused(22, "dinner(61)", BAD, x -> x.dinner(61));
        e.refused(23, "hands(31, 0)", BAD, x -> x.hands(31, 0));
        e.refused(24, "outs(31, 0)", BAD, x -> x.outs(31, 0));
        e.refused(25, "best(31, 0)", BAD, x -> x.best(31, 0));
        e.refused(27, "wakes(2)", STATE, x -> x.wakes(2));
        e.refused(27, "wakes(3)", BAD, x -> x.wakes(3));
        e.refused(31, "lorries(0, 9, 0, 0)", BAD, x -> x.lorries(0, 9, 0, 0));
        e.refused(32, "drawn(1, 0, 0)", BAD, x -> x.drawn(1, 0, 0));
    }
}
