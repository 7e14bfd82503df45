/** The edges of a new object, and of what is asked: promises 1 and 35 to 40. */
final class AskedEdges {
    private static final int NONE = Edges.NONE, BAD = Edges.BAD, STATE = Edges.STATE, FULL = Edges.FULL;
    private static final int NULL = Edges.NULL, PLACE = Edges.PLACE, KIND = Edges.KIND, SIZE = Edges.SIZE;
    private static final int STORE = Edges.STORE, LOW = Edges.LOW, HIGH = Edges.HIGH;
    /** One of each kind, in the order of their numbers. */
    private static final String KINDS = "k1,9;p2,9,0;l3,9,0;s4,9,0;d5,9,0;t6,9,0;";
    private final Edges e;

    AskedEdges(Edges e) {
        this.e = e;
    }

    void all() {
        newObject();
        lastCall();
        kinds();
        as();
        sizes();
        marks();
        askRefused();
        trace();
        counts();
        countsOfOut();
        findings();
        statusOfOthers();
        changesNothing();
    }

    private void newObject() {
        e.edge(1, "No ROOM");
        AsleepCots x = Edges.none();
        for (int what = 0; what <= 7; what++) {
            e.is("count " + what, x.count(what), 0);
        }
        e.is("stand", x.stand(0), STATE);
        e.is("status", x.status(), 0);
        e.is("fault", x.fault(), 0);
        e.is("trace", x.trace(0), NONE);
        e.is("restore", x.restore(0), STATE);
        e.is("its own, whatever another holds", Edges.room(Edges.SEVEN).count(1) * 10 + x.count(1), 70);
        e.edge(1, "NONE = -1000000, BAD = -1000001, STATE = -1000002, FULL = -1000003");
        e.is("NONE", AsleepCots.NONE, -1000000);
        e.is("BAD", AsleepCots.BAD, -1000001);
        e.is("STATE", AsleepCots.STATE, -1000002);
        e.is("FULL", AsleepCots.FULL, -1000003);
    }

    private void lastCall() {
        e.edge(1, "An object is used for at most 512 calls after it has been made");
        AsleepCots x = Edges.none();
        int calls = Edges.THREE.length() + 1;
        Due.feed(x, Edges.THREE).room();
        for (int turn = 0; calls < 509; turn++, calls++) {
            if (turn % 3 == 0) {
                x.minutes(1);
            } else if (turn % 3 == 1) {
                x.lorry(3);
            } else {
                x.hand(0, turn / 3 % 2 == 0 ? 1 : 0);
            }
        }
        e.is("call 510", x.restore(0), STATE);
        e.is("call 511", x.count(2), 161);
        e.is("call 512", x.count(6), 24);
    }

    private void kinds() {
        e.edge(35, "The KIND of a CHILD, as told (1 to 5)");
        AsleepCots x = Edges.room(KINDS);
        for (int one = 0; one < 5; one++) {
            e.is("kind of " + one, x.kind(one), one + 1);
        }
        e.edge(35, "BAD");
        e.range("one", 0, 6, one -> Edges.room(Edges.SEVEN).kind(one));
        e.is("no ROOM, no CHILD", Edges.none().kind(0), BAD);
    }

    private void as() {
        e.edge(36, "KINDS of CHILDREN: 0 CHILD; 1 PLAIN, a CHILD; 2 LOUD, a PLAIN; 3 SONG, a PLAIN; 4 DEEP, a CHILD; 5 STILL, a DEEP");
        e.range("kind", 0, 5, kind -> Edges.room(KINDS).as(0, kind));
        String[] such = {"110000", "111000", "110100", "100010", "100011"};
        for (int one = 0; one < 5; one++) {
            for (int kind = 0; kind <= 5; kind++) {
                e.is("as(" + one + ", " + kind + ")", Edges.room(KINDS).as(one, kind), such[one].charAt(kind) == '1' ? one : KIND);
            }
        }
        e.edge(36, "A CHILD is taken as one of a KIND (0 .. 5): its number");
        e.is("the last", Edges.room(Edges.SEVEN).as(6, 0), 6);
        e.is("the last, as what it is told", Edges.room(Edges.SEVEN).as(6, 1), 6);
        e.edge(36, "BAD;");
        e.range("one", 0, 6, one -> Edges.room(Edges.SEVEN).as(one, 0));
        e.is("no ROOM, no CHILD", Edges.none().as(0, 0), BAD);
        e.edge(36, "KIND: it is no such one");
        e.is("a plain one is not loud", Edges.room(KINDS).as(0, 2), KIND);
        e.is("-1000010 less 3", Edges.room(KINDS).as(4, 1), -1000013);
    }

    private void asked(AsleepCots x, int one, int what, int want, int... bodies) {
        e.is("ask(" + one + ", " + what + ")", x.ask(one, what), want);
        for (int i = 0; i < bodies.length; i++) {
            e.is("trace(" + i + ") of ask(" + one + ", " + what + ")", x.trace(i), bodies[i]);
        }
        e.is("the end of the trace of ask(" + one + ", " + what + ")", x.trace(bodies.length), NONE);
    }

    /** Child 5 cries: 4, 5, 6, 7, 8 are heard at the cots 0 to 4. */
    private static AsleepCots inNoise() {
        AsleepCots x = Edges.room(KINDS + "p7,0,9;");
        x.minutes(7);
        x.lorry(1);
        return x;
    }

    private void sizes() {
        e.edge(37, "0 SIZE: 10 lent to all CHILDREN: NEED. 11 of PLAINS: what 10 gives, and MARK. 12 of LOUD ones: 0 less what 11 gives");
        AsleepCots x = inNoise();
        asked(x, 0, 0, 2 + (0 + 4), 11, 10, 21, 20);
        asked(x, 1, 0, -(3 + 2 * (1 + 5)), 12, 11, 10, 24, 21, 20);
        asked(x, 2, 0, 4 + (2 + 6 - 1000), 11, 10, 22, 21, 20);
        asked(x, 5, 0, 7 + (5 + 0), 11, 10, 21, 20);
        e.edge(37, "13 of DEEP ones: what 10 gives, less 100. 14 of STILL ones: what 13 gives, twice");
        asked(x, 3, 0, 5 - 100, 13, 10);
        asked(x, 4, 0, 2 * (6 - 100), 14, 13, 10);
        x.need(4, 9);
        asked(x, 4, 0, 2 * (9 - 100), 14, 13, 10);
    }

    private void marks() {
        e.edge(37, "1 MARK: 20 lent to all CHILDREN: the number. 21 of PLAINS: what 20 gives, and NOISE at his COT. 22 of those who want the SONG: what 21 gives, less 1000");
        AsleepCots x = inNoise();
        asked(x, 0, 1, 0 + 4, 21, 20);
        asked(x, 5, 1, 5 + 0, 21, 20);
        asked(x, 2, 1, 2 + 6 - 1000, 22, 21, 20);
        e.edge(37, "23 of DEEP ones: what 20 gives, less SIZE. 24 of LOUD ones: what 21 gives, twice");
        asked(x, 1, 1, 2 * (1 + 5), 24, 21, 20);
        asked(x, 3, 1, 3 - (5 - 100), 23, 20, 13, 10);
        e.edge(37, "Of an ask the BODY told for the KIND begins, else that of the nearest KIND that it is, too, else the one that is lent; SIZE, MARK within others are asked of the same CHILD anew");
        asked(x, 4, 1, 4 - 2 * (6 - 100), 23, 20, 14, 13, 10);
        asked(x, 2, 0, 4 + (2 + 6 - 1000), 11, 10, 22, 21, 20);
        x = Edges.room(Edges.SEVEN);
        asked(x, 6, 1, 6, 21, 20);
    }

    private void askRefused() {
        e.edge(37, "An ASK (0, 1) of a CHILD");
        e.range("what", 0, 1, what -> Edges.room(KINDS).ask(0, what));
        e.edge(37, "BAD.");
        e.range("one", 0, 6, one -> Edges.room(Edges.SEVEN).ask(one, 0));
        e.is("no ROOM, no CHILD", Edges.none().ask(0, 0), BAD);
        e.edge(37, "THE TRACE is empty ahead of it");
        AsleepCots x = Edges.room(KINDS);
        x.ask(1, 0);
        asked(x, 3, 0, 5 - 100, 13, 10);
        e.is("a refused one leaves it", x.ask(5, 0) == BAD ? x.trace(0) * 100 + x.trace(1) : 0, 1310);
    }

    private void trace() {
        e.edge(38, "Number i of THE TRACE; NONE");
        AsleepCots x = Edges.room(KINDS);
        e.is("nothing is asked yet", x.trace(0), NONE);
        x.ask(1, 0);
        int[] bodies = {12, 11, 10, 24, 21, 20};
        for (int i = 0; i < bodies.length; i++) {
            e.is("number " + i, x.trace(i), bodies[i]);
        }
        for (int i : new int[] {-1, 6, 15, 16, 17, LOW, HIGH}) {
            e.is("number " + i, x.trace(i), NONE);
        }
        e.edge(38, "each of which leaves its number in THE TRACE as it begins (the first 16)");
        x.ask(4, 1);
        e.is("as it begins, not as it ends", x.trace(0) * 100 + x.trace(4), 2310);
        Due.feed(x, Edges.WAKEFUL).room();
        e.is("another ROOM leaves it", x.trace(0), 23);
        x.minutes(1);
        x.undo();
        e.is("so does an ACT", x.trace(4) * 10000 + x.trace(5), 10 * 10000 + NONE);
    }

    private void counts() {
        e.edge(39, "0 ROWS, 1 CHILDREN, 2 MINUTE, 3 how many SLEEP, 4 CRY, 5 are OUT, 6 ACTS that can be undone, 7 bytes on the tape");
        e.range("what", 0, 7, what -> Edges.room(Edges.SEVEN).count(what));
        AsleepCots x = Edges.threeWoken();
        x.minutes(4);
        x.lorry(4);
        x.carry(1, 1);
        for (int row = 0; row < 8; row++) {
            x.row(row, 0, 0);
        }
        x.drop(3);
        x.feed(0);
        x.feed(0);
        int[] want = {7, 3, 7, 1, 1, 1, 10, 2};
        for (int what = 0; what <= 7; what++) {
            e.is("count " + what, x.count(what), want[what]);
        }
        e.edge(39, "BAD");
        for (int what : new int[] {-1, 8, LOW, HIGH}) {
            e.is("no ROOM, " + what, Edges.none().count(what), BAD);
        }
    }

    private void countsOfOut() {
        e.edge(39, "How many");
        AsleepCots x = Edges.after(Edges.SEVEN, 1);
        e.is("seven SLEEP", x.count(3), 7);
        for (int c = 0; c <= 6; c++) {
            x.carry(c, 1);
        }
        e.is("seven are OUT", x.count(5), 7);
        e.is("who is OUT SLEEPS, too", x.count(3), 7);
        x = Edges.after(Edges.SEVEN, 1);
        x.lorry(1);
        x.carry(0, 1);
        e.is("who is OUT CRIES, too", x.count(4), 7);
        x.minutes(24);
        e.is("24 ACTS at most", x.count(6), 24);
        for (int i = 0; i < 120; i++) {
            x.feed(1);
        }
        e.is("120 bytes", x.count(7), 120);
    }

    private void status(AsleepCots x, String call, int answer, int want, int status) {
        e.is(call, answer, want);
        e.is("status behind " + call, x.status(), status);
    }

    private void findings() {
        e.edge(40, "the number of its FINDING");
        AsleepCots x = Edges.room(Edges.WAKEFUL);
        x.row(0, 0, 2);
        x.row(1, 1, 2);
        status(x, "set, missing", x.set(2, 0, 0), NULL, 1);
        status(x, "set, no place", x.set(0, 2, 0), PLACE, 2);
        status(x, "as, no such one", x.as(0, 5), KIND, 3);
        status(x, "row, fewer than none", x.row(0, 0, -1), SIZE, 4);
        status(x, "copy, two lanes", x.copy(0, 0, 1, 0, 1), STORE, 5);
        status(x, "copy, missing", x.copy(0, 0, 2, 0, 1), NULL, 1);
        status(x, "copy, no place", x.copy(0, 0, 0, 2, 1), PLACE, 2);
        status(x, "drop, missing", x.drop(2), NULL, 1);
        status(x, "who, no place", x.who(0, 0, 0, 2, 1), PLACE, 2);
        status(x, "who, missing", x.who(0, 0, 2, 0, 1), NULL, 1);
        status(x, "held, no place", x.held(0, 2, 1), PLACE, 2);
        status(x, "held, missing", x.held(2, 0, 1), NULL, 1);
        e.edge(40, "0: it had none, or there was none");
        e.is("a new object", Edges.none().status(), 0);
        status(x, "set", x.set(0, 0, 0), 0, 0);
        x.drop(2);
        status(x, "copy", x.copy(0, 0, 0, 1, 1), 1, 0);
        x.drop(2);
        status(x, "who", x.who(0, 1, 0, 0, 1), 1020, 0);
        x.drop(2);
        status(x, "held", x.held(0, 0, 1), 129, 0);
        x.drop(2);
        status(x, "as", x.as(0, 1), 0, 0);
        x.drop(2);
        status(x, "drop", x.drop(1), 2, 0);
        x.drop(2);
        status(x, "row", x.row(1, 0, 0), 0, 0);
    }

    private void statusOfOthers() {
        e.edge(40, "Of the latest call with a ROW, or as(), that was not BAD, STATE, FULL");
        AsleepCots x = Edges.room(Edges.WAKEFUL);
        x.row(0, 0, 2);
        x.as(0, 5);
        int[] bad = {x.row(8, 0, 1), x.row(0, 3, 1), x.row(0, 0, 41), x.set(8, 0, 0), x.copy(8, 0, 0, 0, 0),
            x.copy(0, 0, 8, 0, 0), x.drop(8), x.who(1, 0, 0, 0, 1), x.who(0, 0, 0, 0, 13), x.held(8, 0, 1),
            x.held(0, 0, 0), x.as(1, 0), x.as(0, 6)};
        for (int k = 0; k < bad.length; k++) {
            e.is("BAD " + k, bad[k], BAD);
        }
        e.is("BAD leaves it", x.status(), 3);
        x.feed('k');
        x.room();
        x.hand(0, 1);
        x.hand(0, 1);
        x.minutes(1);
        x.undo();
        x.ahead(1, 1);
        x.image(0);
        x.restore(0);
        x.restore(1);
        x.ask(0, 0);
        x.kind(0);
        x.count(0);
        x.trace(0);
        x.fault();
        e.is("calls without a ROW leave it", x.status(), 3);
        e.is("asked twice", x.status(), 3);
        x = Edges.none();
        x.drop(0);
        x.held(0, 0, 1);
        e.is("STATE leaves it", x.status(), 1);
    }

    private void changesNothing() {
        e.refused(35, "kind(3)", BAD, x -> x.kind(3));
        e.refused(36, "as(3, 0)", BAD, x -> x.as(3, 0));
        e.refused(36, "as(0, 6)", BAD, x -> x.as(0, 6));
        e.refused(36, "as(0, 4)", KIND, x -> x.as(0, 4));
        e.refused(37, "ask(3, 0)", BAD, x -> x.ask(3, 0));
        e.refused(37, "ask(0, 2)", BAD, x -> x.ask(0, 2));
        e.refused(38, "trace(16)", NONE, x -> x.trace(16));
        e.refused(39, "count(8)", BAD, x -> x.count(8));
        e.edge(40, "What is refused, or found, changes nothing but status()");
        AsleepCots x = Look.rich();
        e.is("found", x.set(5, 0, 0), NULL);
        e.is("status alone", x.status(), 1);
        e.is("refused", x.hand(1, 1), FULL);
        e.is("not by what is refused", x.status(), 1);
        e.same("both", Look.at(x), Look.at(Look.rich()));
    }
}
