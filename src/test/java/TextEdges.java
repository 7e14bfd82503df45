/** The edges of what is told: promises 6 to 9. */
final class TextEdges {
    private static final int BAD = Edges.BAD, STATE = Edges.STATE, FULL = Edges.FULL;
    private static final String LAW = "k0,1;", CHILD = "p1,1,1;";
    private final Edges e;

    TextEdges(Edges e) {
        this.e = e;
    }

    void all() {
        bytes();
        fullTape();
        emptied();
        manyChildren();
        law();
        traits();
        tokens();
        sentences();
        inPlace();
        allStays();
        faultPlaces();
        leastFault();
        eighthChild();
        latestFault();
        undone();
        keptActs();
        undoneKinds();
        undoneLaw();
        changesNothing();
    }

    private void good(String text, int children) {
        e.is("room of " + text, Due.fed(text).room(), children);
    }

    private void fault(String text, int place, int number) {
        AsleepCots x = Due.fed(text);
        e.is("room of " + text, x.room(), -1000100 - place);
        e.is("fault of " + text, x.fault(), number);
    }

    private void bytes() {
        e.edge(6, "A byte (0 to 255) comes behind the tape");
        e.range("byte", 0, 255, letter -> Edges.none().feed(letter));
        e.edge(6, "how many it has");
        AsleepCots x = Edges.none();
        e.is("the first", x.feed(0), 1);
        e.is("the second", x.feed(255), 2);
        e.is("a refused one is not on it", x.feed(256), BAD);
        e.is("the third", x.feed('k'), 3);
    }

    private static AsleepCots tapeOf(int n) {
        AsleepCots x = Edges.none();
        for (int i = 0; i < n; i++) {
            x.feed('k');
        }
        return x;
    }

    private void fullTape() {
        e.edge(6, "THE TAPE has at most 120 bytes");
        e.is("byte 120", tapeOf(119).feed('k'), 120);
        e.is("byte 121", tapeOf(120).feed('k'), FULL);
        e.edge(6, "FULL");
        AsleepCots x = tapeOf(120);
        e.is("FULL", x.feed('k'), FULL);
        e.is("and again", x.feed('k'), FULL);
        e.is("120 yet", x.count(7), 120);
        e.edge(6, "BAD; FULL");
        e.is("BAD is first, above", x.feed(256), BAD);
        e.is("BAD is first, below", x.feed(-1), BAD);
        x.room();
        e.is("read, it has room again", x.feed('k'), 1);
        e.is("120 figures are read to their end", Due.fed("7".repeat(120)).room(), -1000100);
        e.edge(6, "the first of these that fits");
        e.is("BAD on a tape with room", x.feed(256), BAD);
    }

    private void emptied() {
        e.edge(7, "The tape, empty then, is read");
        AsleepCots x = Due.fed(LAW + CHILD);
        e.is("read", x.room(), 1);
        e.is("empty", x.count(7), 0);
        e.is("an empty tape has its FAULT at 0", x.room(), -1000100);
        e.is("the room stays", x.count(1), 1);
        Due.feed(x, "k0");
        e.is("a fault", x.room(), -1000102);
        e.is("empty behind a fault", x.count(7), 0);
        e.is("nothing of it is read again", Due.feed(x, LAW + CHILD + CHILD).room(), 2);
        Due.feed(x, "k0000000,1;").room();
        e.is("nor behind the end of a shorter one", Due.feed(x, "k00").room(), -1000103);
        Due.feed(x, LAW + CHILD + CHILD + CHILD).room();
        e.is("nor as a child more", Due.feed(x, LAW + CHILD).room(), 1);
    }

    private void manyChildren() {
        e.edge(7, "how many CHILDREN there are");
        for (int n = 1; n <= 7; n++) {
            good(LAW + CHILD.repeat(n), n);
        }
        e.edge(7, "CHILDREN 0 .. 6, 7 at most, in COTS of these numbers");
        AsleepCots x = Edges.room(LAW + CHILD.repeat(7));
        for (int c = 0; c <= 6; c++) {
            e.is("cot of " + c, x.child(c, 3), c);
        }
        e.is("none behind 6", x.child(7, 3), BAD);
        fault(LAW + CHILD.repeat(8), 54, 3);
    }

    private void law() {
        e.edge(7, "law: k WOMEN , CRIES ; (0 to 3; 1 to 9)");
        for (int women = 0; women <= 3; women++) {
            AsleepCots x = Edges.room("k" + women + ",1;" + CHILD.repeat(5));
            for (int c = 0; c < women; c++) {
                x.hand(c, 1);
            }
            e.is("hands of " + women, x.count(6) * 10 + (x.hand(4, 1) == FULL ? 1 : 0), women * 10 + 1);
        }
        fault("k4,1;" + CHILD, 1, 2);
        fault("k99,1;" + CHILD, 1, 2);
        for (int cries : new int[] {1, 9}) {
            AsleepCots x = Edges.after("k0," + cries + ";p1,0,0;", 1);
            x.lorry(1);
            e.is("cries " + cries, x.child(0, 5), cries);
        }
        fault("k0,0;" + CHILD, 3, 2);
        fault("k0,10;" + CHILD, 3, 2);
        fault("k0,99;" + CHILD, 3, 2);
    }

    private void traits() {
        e.edge(7, "1 to 9; 0 to 9; 0 to 9");
        for (int v : new int[] {1, 9}) {
            e.is("NEED", Edges.room(LAW + "p" + v + ",1,1;").child(0, 0), v);
        }
        for (int v : new int[] {0, 9}) {
            e.is("HOLDS", Edges.room(LAW + "p1," + v + ",1;").child(0, 1), v);
            e.is("VOICE", Edges.room(LAW + "p1,1," + v + ";").child(0, 2), v);
        }
        fault(LAW + "p0,1,1;", 6, 2);
        fault(LAW + "p10,1,1;", 6, 2);
        fault(LAW + "p1,10,1;", 8, 2);
        fault(LAW + "p1,1,10;", 10, 2);
        fault(LAW + CHILD + "p1,1,10;", 17, 2);
        e.edge(7, "SORT: p a plain one, l a loud one, s one who wants the song, d a deep one, t a still one");
        String sorts = "?plsdt";
        for (int letter = 'a'; letter <= 'z'; letter++) {
            String text = LAW + (char) letter + "1,1,1;";
            if (sorts.indexOf(letter) > 0) {
                e.is("kind of " + text, Edges.room(text).kind(0), sorts.indexOf(letter));
            } else {
                fault(text, 5, 1);
            }
        }
    }

    private void tokens() {
        e.edge(7, "letters a to z (each by itself)");
        fault("kk0,1;", 1, 1);
        fault("K0,1;" + CHILD, 0, 1);
        fault(LAW + "P1,1,1;", 5, 1);
        fault(LAW + "pl1,1,1;", 6, 1);
        e.edge(7, "NUMBERS (figures, 2 at most)");
        good("k00,01;p01,00,00;", 1);
        good("k03,09;p09,09,09;", 1);
        AsleepCots x = Edges.room("k03,09;p08,06,07;");
        e.is("NEED HOLDS VOICE", x.child(0, 0) * 100 + x.child(0, 1) * 10 + x.child(0, 2), 867);
        fault("k000,1;", 1, 1);
        fault(LAW + "p1,1,001;", 10, 1);
        fault("k/,1;", 1, 1);
        fault("k:,1;", 1, 1);
        fault("k-1,1;", 1, 1);
        e.edge(7, "SIGNS , and ; nothing else");
        int[] none = {0, 9, 10, 32, '+', '-', '.', '/', ':', '<', '@', 'A', 'Z', '[', '`', '{', 127, 128, 176, 255};
        for (int b : none) {
            fault(LAW + CHILD + (char) b, 12, 1);
            fault((char) b + LAW + CHILD, 0, 1);
            fault("k" + (char) b + "0,1;" + CHILD, 1, 1);
            fault("k0" + (char) b + "1;" + CHILD, 2, 1);
        }
    }

    private void sentences() {
        e.edge(7, "room: law child { child }");
        fault("", 0, 1);
        fault(LAW, 5, 1);
        fault(CHILD, 0, 1);
        fault(LAW + LAW + CHILD, 5, 1);
        fault(LAW + CHILD + LAW, 12, 1);
        fault(LAW + CHILD + ";", 12, 1);
        fault(LAW + ";" + CHILD, 5, 1);
        e.edge(7, "child: SORT NEED , HOLDS , VOICE ;");
        fault(LAW + "p,1,1;", 6, 1);
        fault(LAW + "p1;1,1;", 7, 1);
        fault(LAW + "p1,,1;", 8, 1);
        fault(LAW + "p1,1;1;", 9, 1);
        fault(LAW + "p1,1,;", 10, 1);
        fault(LAW + "p1,1,1,", 11, 1);
        fault(LAW + "p1,1,1p", 11, 1);
    }

    private void inPlace() {
        e.edge(7, "A ROOM that is read stands in place of the one before (none at first)");
        AsleepCots x = Edges.none();
        e.is("none at first", x.stand(0), STATE);
        Due.feed(x, Edges.SEVEN).room();
        x.minutes(5);
        x.lorry(1);
        e.is("seven", x.count(1), 7);
        Due.feed(x, "k0,1;t9,1,1;").room();
        e.is("one", x.count(1), 1);
        e.is("the others are gone", x.child(1, 0), BAD);
        e.is("its kind", x.kind(0), 5);
        e.edge(7, "MINUTE 0, all LIE, CALM is 0, no hands, nobody is OUT");
        Due.feed(x, Edges.SEVEN).room();
        x.minutes(1);
        x.lorry(1);
        x.hand(0, 1);
        x.carry(1, 1);
        x.change(2, 3);
        Due.feed(x, "k3,2;" + "p2,0,0;".repeat(7)).room();
        e.is("MINUTE", x.count(2), 0);
        e.is("LIE", x.stand(0), 127);
        e.is("hands", x.stand(4), 0);
        e.is("OUT", x.stand(3), 0);
        for (int c = 0; c <= 6; c++) {
            e.is("for how long, CALM of " + c, x.child(c, 5) + x.child(c, 6), 0);
            e.is("COT of " + c, x.child(c, 3), c);
        }
        e.is("they need two minutes all", x.minutes(1), 0);
        e.edge(7, "no ACT can be undone");
        x.minutes(3);
        Due.feed(x, LAW + CHILD).room();
        e.is("undo", x.undo(), STATE);
        e.is("ACTS", x.count(6), 0);
    }

    private void allStays() {
        e.edge(7, "all stays");
        for (String text : new String[] {"", "k", "k4,1;" + CHILD, LAW + "p0,1,1;", LAW + CHILD + "x", LAW + CHILD.repeat(8)}) {
            AsleepCots x = faulty(text);
            AsleepCots y = faulty("k0,0;");
            e.is("a fault in " + text, x.room() < -1000099 ? 1 : 0, 1);
            y.room();
            e.is("the tape", x.count(7), 0);
            e.same("room() of " + text, withoutFault(x), withoutFault(y));
            e.is("CHILDREN, MINUTE", Look.rich().count(1) * 10 + Look.rich().count(2), 33);
        }
        AsleepCots x = Edges.threeWoken();
        Due.feed(x, "k0,1;d9").room();
        e.is("MINUTE", x.count(2), 3);
        e.is("ACTS", x.count(6), 4);
        e.is("who CRIES", x.stand(1), 1);
        e.is("WOMEN", x.hand(0, 1), 1);
        e.is("undone", x.undo(), 3 + 1);
    }

    private static AsleepCots faulty(String text) {
        AsleepCots x = Look.rich();
        x.room();
        return Due.feed(x, text);
    }

    private static String withoutFault(AsleepCots x) {
        return Look.at(x).replaceFirst(" fault \\d", "");
    }

    private void faultPlaces() {
        e.edge(7, "-1000100 less the place of a FAULT");
        fault("x", 0, 1);
        fault("k03,09;" + "p01,00,00;".repeat(7) + "p", 77, 3);
        e.edge(7, "the end: how many bytes there are");
        String text = "k0,1;p1,1,1;t2,00,09;";
        for (int n = 0; n < text.length(); n++) {
            if (n != 12) {
                fault(text.substring(0, n), n, 1);
            }
        }
        good(text.substring(0, 12), 1);
        good(text, 2);
        e.edge(7, "a run of three figures, at its first");
        fault("k123,1;", 1, 1);
        fault("k001,1;", 1, 1);
        fault("k1234567,1;", 1, 1);
        fault(LAW + "p100", 6, 1);
        fault(LAW + "123", 5, 1);
        fault(LAW + CHILD + "000", 12, 1);
        good("k00,01;p01,01,01;", 1);
    }

    private void leastFault() {
        e.edge(7, "the first TOKEN that has one (its first byte)");
        fault("k9,0;x", 1, 2);
        fault("k3,0;p0,10,10;", 3, 2);
        fault("k0,10,", 3, 2);
        fault(LAW + "p1,99,99;", 8, 2);
        fault("k0;0;", 2, 1);
        e.edge(7, "of one TOKEN the least");
        fault("k999,1;", 1, 1);
        fault("k1,000;", 3, 1);
        fault(LAW + "p1,1,100;", 10, 1);
        fault(LAW + "99", 5, 1);
        fault("k0,199;", 3, 1);
        fault("10", 0, 1);
        e.edge(7, "1 it cannot stand there, or is none");
        fault("k0,k", 3, 1);
        fault("k0,1p", 4, 1);
        fault("k0,1 ;", 4, 1);
        e.edge(7, "2 a NUMBER that is not as told");
        fault("k4", 1, 2);
        fault("k3,0", 3, 2);
        fault("k3,9;l0", 6, 2);
        fault("k3,9;l9,10", 8, 2);
        fault("k3,9;l9,9,10", 10, 2);
    }

    private void eighthChild() {
        e.edge(7, "3 a child more than there is room for (its letter)");
        String seven = LAW + CHILD.repeat(7);
        for (String sort : new String[] {"p", "l", "s", "d", "t"}) {
            fault(seven + sort, 54, 3);
            fault(seven + sort + "0,10,10;", 54, 3);
        }
        fault(seven + "x1,1,1;", 54, 1);
        fault(seven + "1", 54, 1);
        fault(seven + "k0,1;", 54, 1);
        fault(seven + ";", 54, 1);
        good(seven, 7);
    }

    private void latestFault() {
        e.edge(8, "The number of the latest FAULT");
        AsleepCots x = Due.fed("k4");
        x.room();
        e.is("2", x.fault(), 2);
        Due.feed(x, LAW + CHILD).room();
        e.is("a text without one leaves it", x.fault(), 2);
        Due.feed(x, LAW + CHILD.repeat(8)).room();
        e.is("3", x.fault(), 3);
        x.room();
        e.is("1", x.fault(), 1);
        e.edge(8, "0 before one");
        x = Edges.none();
        e.is("a new object", x.fault(), 0);
        Due.feed(x, "k4");
        e.is("not read yet", x.fault(), 0);
        e.is("no FAULT in a text", Edges.room(LAW + CHILD).fault(), 0);
    }

    private void undone() {
        e.edge(9, "STATE: none");
        e.is("no ROOM", Edges.none().undo(), STATE);
        e.is("no ACT", Edges.room(Edges.THREE).undo(), STATE);
        AsleepCots x = Edges.after(Edges.THREE, 1);
        x.undo();
        e.is("all undone", x.undo(), STATE);
        e.is("nothing changed", x.count(2) * 10 + x.stand(0), 7);
        x.minutes(1);
        x.image(0);
        e.is("an IMAGE is no ACT", x.undo(), 0);
        x.restore(0);
        e.is("restored", x.undo(), STATE);
        e.edge(9, "how many can be undone yet");
        x = Edges.after(Edges.THREE, 2);
        e.is("one", x.undo(), 1);
        e.is("none", x.undo(), 0);
    }

    private void keptActs() {
        e.edge(9, "24 at most are kept, of more the oldest is forgotten");
        AsleepCots x = Edges.after(Edges.THREE, 24);
        for (int left = 23; left >= 0; left--) {
            e.is("24 acts, left", x.undo(), left);
        }
        e.is("to the first", x.count(2), 0);
        x = Edges.after(Edges.THREE, 24);
        x.hand(0, 1);
        e.is("25 acts", x.count(6), 24);
        for (int left = 23; left >= 0; left--) {
            e.is("25 acts, left", x.undo(), left);
        }
        e.is("the oldest is forgotten", x.undo(), STATE);
        e.is("its MINUTE stays", x.count(2), 1);
        e.is("as it was behind it", x.stand(2), 1);
        x = Edges.after(Edges.THREE, 24);
        x.minutes(24);
        x.minutes(24);
        for (int i = 0; i < 10; i++) {
            x.undo();
        }
        x.minutes(3);
        e.is("14 and 3", x.count(6), 17);
        for (int i = 0; i < 17; i++) {
            x.undo();
        }
        e.is("to MINUTE 48", x.count(2), 48);
        e.is("no further", x.undo(), STATE);
    }

    private void undoneKinds() {
        AsleepCots x = Edges.after(Edges.THREE, 3);
        x.hand(1, 1);
        x.carry(2, 1);
        x.change(0, 2);
        x.lorry(50);
        x.need(0, 7);
        x.hand(1, 0);
        x.carry(2, 0);
        e.edge(9, "one is carried OUT, or brought back");
        e.is("brought back: OUT again", x.undo() * 10 + x.stand(3), 94);
        e.edge(9, "a hand is laid on a CHILD, or taken off");
        e.is("taken off: on again", x.undo() * 10 + x.stand(4), 82);
        e.edge(9, "NEED of one is another");
        e.is("NEED", x.undo() * 10 + x.child(0, 0), 71);
        e.edge(9, "a LORRY; NEED of one is another");
        e.is("LORRY", x.undo() * 10 + x.stand(2), 67);
        e.is("CALM from ahead of the LORRY", x.child(1, 6), 2);
        e.edge(9, "two change COTS");
        e.is("COTS", x.undo() * 10 + x.child(0, 3), 50);
        e.is("COTS of the other", x.child(2, 3), 2);
        e.edge(9, "one is carried OUT, or brought back");
        e.is("carried OUT", x.undo() * 10 + x.stand(3), 40);
        e.edge(9, "a hand is laid on a CHILD, or taken off");
        e.is("laid on", x.undo() * 10 + x.stand(4), 30);
        e.edge(9, "the latest first): a MINUTE");
        e.is("a MINUTE", x.undo() * 10 + x.stand(2), 23);
        e.is("MINUTE", x.count(2), 2);
    }

    private void undoneLaw() {
        e.edge(9, "The latest ACT is undone");
        AsleepCots x = Edges.threeWoken();
        x.minutes(1);
        e.is("for how long he cries", x.undo() * 10 + x.child(0, 5), 43);
        x.lorry(0);
        e.is("a LORRY that wakes nobody is an ACT", x.undo(), 4);
        x.need(0, 1);
        e.is("NEED as it was is an ACT", x.undo(), 4);
        e.is("a refused one is none", x.lorry(100), BAD);
        e.is("nor a foretold one", x.ahead(9, 2), 7);
        e.is("ACTS", x.count(6), 4);
        x.row(0, 0, 1);
        x.feed('k');
        x.undo();
        e.is("rows and tape are not undone", x.count(0) * 10 + x.count(7), 11);
    }

    private void changesNothing() {
        e.refused(6, "feed(-1)", BAD, x -> x.feed(-1));
        e.refused(6, "feed(256)", BAD, x -> x.feed(256));
        e.edge(6, "What is refused, or found, changes nothing but status()");
        AsleepCots x = fullAfter(Look.rich());
        e.is("feed on a full tape", x.feed('k'), FULL);
        e.same("feed on a full tape", Look.at(x), Look.at(fullAfter(Look.rich())));
        e.edge(9, "What is refused, or found, changes nothing but status()");
        x = Look.rich();
        x.restore(0);
        AsleepCots y = Look.rich();
        y.restore(0);
        e.is("undo without an ACT", x.undo(), STATE);
        e.same("undo without an ACT", Look.at(x), Look.at(y));
    }

    private static AsleepCots fullAfter(AsleepCots x) {
        for (int bytes = x.count(7); bytes < 120; bytes++) {
            x.feed('p');
        }
        return x;
    }
}
