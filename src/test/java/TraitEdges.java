/** The edges of rows that tell who sleeps, and of images: promises 29, 30, 33 and 34. */
final class TraitEdges {
    private static final int BAD = Edges.BAD, STATE = Edges.STATE, NULL = Edges.NULL, PLACE = Edges.PLACE;
    private static final int LOW = Edges.LOW, HIGH = Edges.HIGH;
    private static final int KINDS = 0, NEEDS = 1, HOLDS = 2, VOICES = 3;
    private final Edges e;

    TraitEdges(Edges e) {
        this.e = e;
    }

    void all() {
        whoRanges();
        kinds();
        needs();
        holdsAndVoices();
        toldMinutes();
        whoFound();
        heldRanges();
        heldFits();
        heldFound();
        images();
        restored();
        changesNothing();
    }

    private static AsleepCots withRow(String text, int n) {
        AsleepCots x = Edges.room(text);
        x.row(0, 0, n);
        return x;
    }

    private void whoRanges() {
        e.edge(29, "BAD: CHILD, which, ROW, n");
        e.range("child", 0, 6, child -> withRow(Edges.SEVEN, 12).who(child, 0, 0, 0, 1));
        e.range("which", 0, 3, which -> withRow(Edges.SEVEN, 12).who(0, which, 0, 0, 1));
        e.range("row", 0, 7, row -> withRow(Edges.SEVEN, 12).who(0, 0, row, 0, 1));
        e.range("n", 1, 12, n -> withRow(Edges.SEVEN, 12).who(0, 0, 0, 0, n));
        e.is("no ROOM, no CHILD", Edges.none().who(0, 0, 0, 0, 1), BAD);
        e.is("ahead of NULL", Edges.room(Edges.SEVEN).who(7, 0, 0, 0, 1), BAD);
        e.is("n is ahead of PLACE", withRow(Edges.SEVEN, 1).who(0, 0, 0, 0, 13), BAD);
        e.edge(29, "KINDS (which = 0), NEEDS (1), HOLDS (2), VOICES (3), n ITEMS of a ROW from i on");
        AsleepCots x = Edges.told(Edges.room("k0,1;p1,1,1;"), 0, 0, 0, 0, 1);
        int[] each = {54, 2, 1023, 1023};
        for (int which = 0; which <= 3; which++) {
            e.is("which " + which, x.who(0, which, 0, 2, 1), each[which]);
        }
    }

    private void kinds() {
        e.edge(29, "KINDS (bits 1 to 5)");
        AsleepCots x = Edges.told(Edges.room("k1,1;p1,9,0;"), 0, 0, 1);
        e.is("all but the song", x.who(0, KINDS, 0, 0, 1), 54);
        x.hand(0, 1);
        e.is("all five", x.who(0, KINDS, 0, 0, 1), 62);
        x.set(0, 0, 0);
        e.is("none", x.who(0, KINDS, 0, 0, 1), 0);
        x = Edges.told(Edges.room("k1,1;t1,9,0;"), 0, 0, 0);
        e.is("the song alone", x.who(0, KINDS, 0, 0, 1), 8);
        // Child 1 hears 4 and holds 2; woken, a still one lies as the others cry: none of them sleeps.
        x = Edges.after("k0,9;p1,0,5;p1,2,0;", 1);
        x.lorry(1);
        Edges.told(x, 0, 0, 2);
        e.is("a deep one, a still one", x.who(1, KINDS, 0, 0, 1), 48);
        e.is("who cries is a loud one: 9 of 2; none sleeps", x.who(0, KINDS, 0, 0, 1), 0);
    }

    private void needs() {
        e.edge(29, "NEEDS (1 to 9, bits)");
        AsleepCots x = withRow(Edges.WAKEFUL, 12);
        e.is("not behind one", x.who(0, NEEDS, 0, 0, 1), 1020);
        e.is("not behind eight", x.who(0, NEEDS, 0, 0, 8), 512);
        e.is("not behind nine: none", x.who(0, NEEDS, 0, 0, 9), 0);
        x.set(0, 0, 1);
        e.is("behind one", x.who(0, NEEDS, 0, 0, 1), 2);
        x.carry(0, 1);
        x.set(0, 0, 0);
        e.is("who is OUT and LIES, all nine", x.who(0, NEEDS, 0, 0, 12), 1022);
    }

    private void holdsAndVoices() {
        e.edge(29, "HOLDS (0 to 9, bits)");
        AsleepCots x = Edges.after("k0,9;p1,0,5;p1,9,0;d1,9,0;", 1);
        x.lorry(1);
        Edges.told(x, 0, 0, 6);
        e.is("4 is no more than 4", x.who(1, HOLDS, 0, 0, 1), 0x3f0);
        e.is("3 is no more than twice 2", x.who(2, HOLDS, 0, 0, 1), 0x3fc);
        e.is("of who cries, all ten", x.who(0, HOLDS, 0, 0, 1), 1023);
        x.set(0, 0, 4);
        e.is("4 is more than 3", x.who(1, HOLDS, 0, 0, 1), 0x00f);
        e.edge(29, "VOICES (0 to 9, bits)");
        x = Edges.after("k0,9;p1,0,5;p1,4,0;", 1);
        x.lorry(1);
        Edges.told(x, 0, 0, 2, 0);
        e.is("5 less 1 is no more than 4", x.who(0, VOICES, 0, 0, 1), 0x03f);
        e.is("6 less 1 is more", x.who(0, VOICES, 0, 1, 1), 0x3c0);
        e.is("of who sleeps, all ten", x.who(1, VOICES, 0, 0, 1), 1023);
        x = Edges.after("k0,9;l1,0,5;p1,4,0;", 1);
        x.lorry(1);
        Edges.told(x, 0, 0, 2);
        e.is("a loud one, twice 2 less 1", x.who(0, VOICES, 0, 0, 1), 0x007);
    }

    private void toldMinutes() {
        e.edge(29, "A row tells who SLEEPS (bits) behind each of n MINUTES (1 to 12) from now on");
        AsleepCots x = Edges.told(Edges.room(Edges.WAKEFUL), 0, 0, 9, 0, 0, 0, 0, 0, 0, 0, 0, 1, 1, 1, 1, 9);
        e.is("twelve, from 1 on", x.who(0, NEEDS, 0, 1, 12), 512);
        x.set(0, 12, 0);
        e.is("the twelfth is not so", x.who(0, NEEDS, 0, 1, 12), 0);
        e.is("eleven are so", x.who(0, NEEDS, 0, 1, 11), 512);
        x.set(0, 1, 1);
        e.is("the first is not so", x.who(0, NEEDS, 0, 1, 11), 0);
        for (int lane = 0; lane <= 2; lane++) {
            Edges.told(x, 1, lane, 1, -1, 3, 127);
            e.is("lane " + lane, x.who(0, NEEDS, 1, 0, 1), 2);
            for (int i = 1; i <= 3; i++) {
                e.is("a bit of nobody, lane " + lane + ", item " + i, x.who(0, NEEDS, 1, i, 1), 0);
            }
        }
        x = Edges.told(Edges.after(Edges.SEVEN, 1), 0, 0, 127);
        e.is("all seven", x.who(6, NEEDS, 0, 0, 1), 1022);
    }

    private void whoFound() {
        e.edge(29, "NULL");
        AsleepCots x = Edges.room(Edges.WAKEFUL);
        e.is("missing", x.who(0, 0, 0, 0, 1), NULL);
        e.is("ahead of PLACE", x.who(0, 0, 0, -1, 12), NULL);
        e.edge(29, "PLACE");
        x.row(0, 0, 12);
        e.is("all twelve", x.who(0, 0, 0, 0, 12), 8);
        e.is("from 1 on", x.who(0, 0, 0, 1, 12), PLACE);
        e.is("the last", x.who(0, 0, 0, 11, 1), 62);
        e.is("behind it", x.who(0, 0, 0, 12, 1), PLACE);
        for (int i : new int[] {-1, LOW, HIGH, HIGH - 11}) {
            e.is("place " + i, x.who(0, 0, 0, i, 12), PLACE);
        }
        x.row(0, 0, 0);
        e.is("of none", x.who(0, 0, 0, 0, 1), PLACE);
    }

    private void heldRanges() {
        e.edge(30, "BAD: ROW, n");
        e.range("row", 0, 7, row -> withRow(Edges.SEVEN, 12).held(row, 0, 1));
        e.range("n", 1, 12, n -> withRow(Edges.SEVEN, 12).held(0, 0, n));
        e.is("ahead of NULL", Edges.room(Edges.SEVEN).held(0, 0, 13), BAD);
        e.is("ahead of PLACE", withRow(Edges.SEVEN, 12).held(0, -1, 0), BAD);
        e.edge(30, "STATE: no ROOM (ahead of BAD)");
        e.is("as told", Edges.told(Edges.none(), 0, 0, 0).held(0, 0, 1), STATE);
        e.is("ahead of BAD", Edges.none().held(8, 0, 0), STATE);
        e.is("ahead of NULL", Edges.none().held(0, 0, 1), STATE);
        e.is("ahead of PLACE", Edges.told(Edges.none(), 0, 0, 0).held(0, 1, 1), STATE);
    }

    private void heldFits() {
        e.edge(30, "CHILDREN (bits) on one of whom a hand, laid on now (whatever there is of WOMEN), makes it so");
        AsleepCots x = Edges.told(Edges.room("k0,2;p9,0,0;p9,0,0;"), 0, 0, 0, 0, 0, 0, 2);
        e.is("no WOMEN", x.held(0, 0, 5), 2);
        x = Edges.told(Edges.room("k1,2;" + "s2,0,0;".repeat(7)), 0, 0, 64);
        e.is("the last of seven", x.held(0, 0, 1), 64);
        x.hand(0, 1);
        x.set(0, 0, 65);
        e.is("beside the one that lies", x.held(0, 0, 1), 64);
        x.set(0, 0, 1);
        e.is("on him on whom it lies: as it is", x.held(0, 0, 1), 129);
        x.set(0, 0, 3);
        e.is("on one more alone", x.held(0, 0, 1), 2);
        e.edge(30, "HELD, n ITEMS of a ROW from i on");
        Edges.told(x, 1, 0, 9, 1, 1, 9);
        e.is("two from 1 on", x.held(1, 1, 2), 129);
        e.is("two from 0 on", x.held(1, 0, 2), 0);
        e.is("two from 2 on", x.held(1, 2, 2), 0);
        e.edge(30, "128 more, if it is so as it is");
        x = Edges.told(Edges.room(Edges.SEVEN), 0, 0, 127);
        e.is("whatever is done", x.held(0, 0, 1), 255);
        x = withRow(Edges.WAKEFUL, 12);
        e.is("four MINUTES with or without", x.held(0, 0, 4), 129);
        e.is("five without", x.held(0, 0, 5), 128);
        e.is("nine: neither", x.held(0, 0, 9), 0);
        Edges.told(x, 0, 0, 0, 0, 0, 0, 0, 0, 0, 0, 1, 1, 1, 1);
        e.is("all twelve", x.held(0, 0, 12), 128);
        x.set(0, 11, 0);
        e.is("the twelfth is not so", x.held(0, 0, 12), 0);
        x.carry(0, 1);
        e.is("who is OUT, with or without", x.held(0, 0, 8), 129);
    }

    private void heldFound() {
        e.edge(30, "NULL");
        AsleepCots x = Edges.room(Edges.WAKEFUL);
        e.is("missing", x.held(7, 0, 1), NULL);
        e.is("ahead of PLACE", x.held(7, -1, 1), NULL);
        e.edge(30, "PLACE");
        x.row(7, 0, 40);
        e.is("the last twelve", x.held(7, 28, 12), 0);
        e.is("one behind", x.held(7, 29, 12), PLACE);
        e.is("the last", x.held(7, 39, 1), 129);
        e.is("behind it", x.held(7, 40, 1), PLACE);
        for (int i : new int[] {-1, LOW, HIGH, HIGH - 11}) {
            e.is("place " + i, x.held(7, i, 12), PLACE);
        }
        x.row(7, 0, 0);
        e.is("of none", x.held(7, 0, 1), PLACE);
    }

    private void images() {
        e.edge(33, "An IMAGE (0, 1) is kept of the ROOM: 1");
        e.range("k", 0, 1, k -> Edges.room(Edges.SEVEN).image(k));
        AsleepCots x = Edges.threeWoken();
        e.is("kept", x.image(0), 1);
        x.minutes(1);
        e.is("the other", x.image(1), 1);
        e.is("no ACT", x.count(6), 5);
        x.restore(0);
        e.is("the first is its own", x.count(2), 3);
        x.restore(1);
        e.is("so is the other", x.count(2), 4);
        x.minutes(9);
        e.is("in place of the one kept", x.image(1), 1);
        x.restore(1);
        e.is("it is the later one", x.count(2), 13);
        e.edge(33, "STATE: no ROOM");
        e.is("0", Edges.none().image(0), STATE);
        e.is("1", Edges.none().image(1), STATE);
        e.edge(33, "BAD;");
        e.is("BAD is first", Edges.none().image(2), BAD);
        e.is("BAD is first, below", Edges.none().image(-1), BAD);
        x = Due.fed("k0");
        x.room();
        e.is("a FAULT makes no ROOM", x.image(0), STATE);
    }

    private void restored() {
        e.edge(34, "The ROOM is as an IMAGE kept it (no ACT can be undone then): 1");
        e.range("k", 0, 1, k -> Edges.room(Edges.SEVEN).restore(k));
        AsleepCots x = Edges.threeWoken();
        x.hand(0, 1);
        x.carry(1, 1);
        x.change(0, 2);
        x.need(1, 9);
        x.image(1);
        Due.feed(x, "k0,9;" + "d9,9,9;".repeat(7)).room();
        x.minutes(24);
        e.is("kept", x.restore(1), 1);
        e.is("no ACT", x.count(6), 0);
        e.is("none to undo", x.undo(), STATE);
        e.is("CHILDREN, MINUTE", x.count(1) * 10 + x.count(2), 33);
        e.is("hands, OUT", x.stand(4) * 10 + x.stand(3), 12);
        e.is("LIE, CRY, SLEEP", x.stand(0) * 100 + x.stand(1) * 10 + x.stand(2), 214);
        e.is("COT, NEED, for how long", x.child(0, 3) * 100 + x.child(1, 0) * 10 + x.child(0, 5), 293);
        e.is("KIND", x.kind(1), 5);
        e.is("WOMEN", x.hand(2, 1), Edges.FULL);
        x.minutes(9);
        e.is("what comes behind is not in it", x.restore(1) * 10 + x.count(2), 13);
        e.edge(34, "STATE: none was kept");
        e.is("0", Edges.none().restore(0), STATE);
        e.is("1", Edges.none().restore(1), STATE);
        e.is("the other was not", x.restore(0), STATE);
        e.edge(34, "BAD;");
        e.is("BAD is first", Edges.none().restore(2), BAD);
        e.is("BAD is first, below", Edges.none().restore(-1), BAD);
    }

    private void changesNothing() {
        e.refused(29, "who(3, 0, 0, 0, 1)", BAD, x -> x.who(3, 0, 0, 0, 1));
        e.refused(29, "who(0, 0, 5, 0, 1)", NULL, x -> x.who(0, 0, 5, 0, 1));
        e.refused(29, "who(0, 0, 0, 3, 1)", PLACE, x -> x.who(0, 0, 0, 3, 1));
        e.refused(30, "held(8, 0, 1)", BAD, x -> x.held(8, 0, 1));
        e.refused(30, "held(5, 0, 1)", NULL, x -> x.held(5, 0, 1));
        e.refused(30, "held(0, 1, 3)", PLACE, x -> x.held(0, 1, 3));
        e.refused(33, "image(2)", BAD, x -> x.image(2));
        e.refused(33, "image(-1)", BAD, x -> x.image(-1));
        e.refused(34, "restore(2)", BAD, x -> x.restore(2));
        e.refused(34, "restore(1)", STATE, x -> x.restore(1));
    }
}
