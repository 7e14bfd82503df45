/** The edges of what is done: promises 10 to 17. */
final class DoneEdges {
    private static final int BAD = Edges.BAD, STATE = Edges.STATE, FULL = Edges.FULL;
    private final Edges e;

    DoneEdges(Edges e) {
        this.e = e;
    }

    void all() {
        minutes();
        lastMinute();
        loudForSleepers();
        loudForTheWakeful();
        cryingEnds();
        calm();
        calmAndNeed();
        out();
        byWhatIsAhead();
        hands();
        handsFull();
        carried();
        changed();
        lorries();
        lorriesLeave();
        needs();
        child();
        noiseAtACot();
        noiseOfWhom();
        stands();
        changesNothing();
        plansRefused();
    }

    /** All sleep but child 0, who has just begun to cry: he alone holds nothing. */
    private static AsleepCots crier(String text) {
        AsleepCots x = Edges.after(text, 1);
        x.lorry(1);
        return x;
    }

    private static int how(AsleepCots x, int c) {
        return x.child(c, 4) * 100 + x.child(c, 5) * 10 + x.child(c, 6);
    }

    private void minutes() {
        e.edge(10, "BAD;");
        e.range("n", 1, 24, n -> Edges.room(Edges.WAKEFUL).minutes(n));
        e.edge(10, "n MINUTES (1 to 24)");
        e.is("1", Edges.room(Edges.WAKEFUL).minutes(1), 0);
        e.is("24", Edges.room(Edges.WAKEFUL).minutes(24), 1);
        e.edge(10, "MINUTE is 1 more");
        AsleepCots x = Edges.after(Edges.WAKEFUL, 1);
        e.is("1", x.count(2), 1);
        x.minutes(24);
        e.is("25", x.count(2), 25);
        e.edge(10, "an ACT each");
        e.is("one", Edges.after(Edges.WAKEFUL, 1).count(6), 1);
        e.is("24", Edges.after(Edges.WAKEFUL, 24).count(6), 24);
        e.edge(10, "who SLEEPS then (bits)");
        e.is("none of seven", Edges.room("k0,1;" + "p2,0,0;".repeat(7)).minutes(1), 0);
        e.is("all seven", Edges.room(Edges.SEVEN).minutes(1), 127);
        e.is("the last alone", Edges.room("k0,1;" + "p2,0,0;".repeat(6) + "p1,0,0;").minutes(1), 64);
        e.edge(10, "STATE: no ROOM (ahead of BAD)");
        for (int n : new int[] {1, 0, 25, -1}) {
            e.is("n " + n, Edges.none().minutes(n), STATE);
        }
    }

    private void lastMinute() {
        e.edge(10, "FULL: MINUTE would be above 999");
        AsleepCots x = Edges.room(Edges.WAKEFUL);
        for (int i = 0; i < 41; i++) {
            x.minutes(24);
        }
        e.is("984 and 16", x.minutes(16), FULL);
        e.is("984 and 24", x.minutes(24), FULL);
        e.is("it stays", x.count(2), 984);
        e.is("984 and 15", x.minutes(15), 1);
        e.is("999", x.count(2), 999);
        e.is("999 and 1", x.minutes(1), FULL);
        e.is("BAD is first", x.minutes(25), BAD);
        e.is("other ACTS are none of it", x.lorry(1) + x.carry(0, 1), 2);
        x.undo();
        x.undo();
        e.is("undone to 998", x.undo() * 1000 + x.count(2), 21998);
        e.is("998 and 2", x.minutes(2), FULL);
        e.is("998 and 1", x.minutes(1), 1);
        e.is("what is foretold goes on beyond", x.ahead(60, 2), 1);
        Due.feed(x, Edges.WAKEFUL).room();
        e.is("a new ROOM begins at 0", x.minutes(24), 1);
    }

    private void loudForSleepers() {
        e.edge(10, "one who SLEEPS, if NOISE is more than he BEARS");
        e.is("4 of 4: he sleeps on", crier("k0,9;p1,0,5;p1,4,0;").minutes(1), 2);
        e.is("4 of 3: he wakes", crier("k0,9;p1,0,5;p1,3,0;").minutes(1), 0);
        e.edge(10, "BEARS: HOLDS; of a deep one, a still one twice that");
        e.is("deep, 4 of 4", crier("k0,9;p1,0,5;d1,2,0;").minutes(1), 2);
        e.is("deep, 5 of 4", crier("k0,9;p1,0,6;d1,2,0;").minutes(1), 0);
        e.is("still, 4 of 4", crier("k0,9;p1,0,5;t1,2,0;").minutes(1), 2);
        e.is("still, 5 of 4", crier("k0,9;p1,0,6;t1,2,0;").minutes(1), 0);
        e.is("loud, 3 of 2", crier("k0,9;p1,0,4;l1,2,0;").minutes(1), 0);
        AsleepCots x = Edges.room("k1,9;p1,0,4;s1,2,0;");
        x.hand(1, 1);
        x.minutes(1);
        x.lorry(1);
        e.is("song, 3 of 2", x.minutes(1), 0);
        e.edge(10, "CRIES for CRIES MINUTES (a still one LIES), CALM is 0");
        for (String kind : new String[] {"p", "l", "d"}) {
            x = crier("k0,9;p1,0,9;" + kind + "1,1,0;");
            x.minutes(1);
            e.is("kind " + kind, how(x, 1), 190);
        }
        x = crier("k0,1;p1,0,9;p1,1,0;");
        x.minutes(1);
        e.is("for one MINUTE", how(x, 1), 110);
        x = crier("k0,9;p1,0,9;t1,1,0;");
        x.minutes(1);
        e.is("a still one", how(x, 1), 0);
    }

    private void loudForTheWakeful() {
        e.edge(10, "One who LIES: if NOISE is more than he BEARS, CALM is 0");
        String[] kinds = {"p9,4,0;", "p9,3,0;", "d9,2,0;", "d9,1,0;", "t9,2,0;", "t9,1,0;"};
        for (int k = 0; k < kinds.length; k++) {
            AsleepCots x = crier("k0,9;p1,0,5;" + kinds[k]);
            x.minutes(1);
            e.is("4 heard by " + kinds[k], how(x, 1), k % 2 == 0 ? 2 : 0);
        }
        AsleepCots x = crier("k0,9;p1,0,5;p9,3,0;");
        x.need(1, 1);
        e.is("NEED of 1 is not met by 0", x.minutes(1), 0);
        x = crier("k1,9;p1,0,5;p9,3,0;");
        x.hand(1, 1);
        x.minutes(1);
        e.is("a hand is no help", how(x, 1), 0);
    }

    private void cryingEnds() {
        e.edge(10, "One who CRIES does so for a MINUTE less (two, if a hand lies on him); if none is left, he LIES, CALM is 0");
        for (int cries : new int[] {1, 2, 9}) {
            AsleepCots x = crier("k0," + cries + ";p1,0,0;");
            for (int left = cries - 1; left > 0; left--) {
                x.minutes(1);
                e.is("CRIES " + cries, how(x, 0), 100 + left * 10);
            }
            x.minutes(1);
            e.is("none is left of " + cries, how(x, 0), 0);
            e.is("behind the next he sleeps", x.minutes(1), 1);
        }
        for (int cries : new int[] {1, 2, 3, 4, 9}) {
            AsleepCots x = crier("k1," + cries + ";p1,0,0;");
            x.hand(0, 1);
            x.minutes(1);
            e.is("a hand, CRIES " + cries, how(x, 0), cries > 2 ? 100 + (cries - 2) * 10 : 0);
            x.minutes((cries + 1) / 2);
            e.is("a hand, all of " + cries, how(x, 0), 202);
        }
    }

    private void calm() {
        e.edge(10, "CALM is 1 more, 2 if a hand lies on him (one who wants the song: 0 without a hand, 2 with one)");
        String[] kinds = {"p", "l", "d", "t", "s"};
        for (String kind : kinds) {
            AsleepCots x = Edges.after("k1,1;" + kind + "9,0,0;", 1);
            e.is(kind + " without", x.child(0, 6), kind.equals("s") ? 0 : 1);
            x.minutes(1);
            e.is(kind + " without, twice", x.child(0, 6), kind.equals("s") ? 0 : 2);
            x.hand(0, 1);
            x.minutes(1);
            e.is(kind + " with", x.child(0, 6), kind.equals("s") ? 2 : 4);
        }
        AsleepCots x = Edges.after("k1,1;s1,0,0;", 24);
        e.is("the song, never without", x.count(3), 0);
        e.edge(10, "if CALM is NEED or more then, he SLEEPS");
        x = Edges.after("k1,1;p9,0,0;", 8);
        e.is("8 of 9", how(x, 0), 8);
        x.minutes(1);
        e.is("9 of 9", how(x, 0), 209);
        x.minutes(24);
        e.is("CALM stays in his sleep", how(x, 0), 209);
        x = Edges.room("k1,1;p9,0,0;");
        x.hand(0, 1);
        x.minutes(4);
        e.is("8 of 9 by a hand", how(x, 0), 8);
        x.minutes(1);
        e.is("10 of 9 by a hand", how(x, 0), 210);
    }

    private void calmAndNeed() {
        e.edge(15, "if CALM is NEED or more then, he SLEEPS");
        AsleepCots x = Edges.after("k0,1;p9,0,0;", 5);
        x.need(0, 1);
        e.is("NEED below CALM: not yet", how(x, 0), 5);
        x.minutes(1);
        e.is("behind a MINUTE", how(x, 0), 206);
        x.need(0, 9);
        x.minutes(1);
        e.is("NEED above CALM does not wake", how(x, 0), 206);
        x = Edges.room("k1,1;s3,0,0;");
        x.hand(0, 1);
        x.minutes(1);
        x.hand(0, 0);
        x.minutes(1);
        e.is("the song, 2 of 3", how(x, 0), 2);
        x.need(0, 2);
        x.minutes(1);
        e.is("the song, 2 of 2, none more", how(x, 0), 202);
    }

    private void out() {
        e.edge(10, "Who is OUT and CRIES does so for a MINUTE less; if none is left, he LIES, CALM is 0");
        AsleepCots x = crier("k1,3;p1,0,9;p1,9,9;");
        x.hand(0, 1);
        x.carry(0, 1);
        x.minutes(1);
        e.is("one less, whatever hand lies on him", how(x, 0), 120);
        x.minutes(1);
        e.is("one left", how(x, 0), 110);
        x.minutes(1);
        e.is("none is left", how(x, 0), 0);
        e.edge(10, "else nothing becomes of who is OUT");
        x.minutes(24);
        e.is("who LIES", how(x, 0), 0);
        x = Edges.after("k0,9;p1,0,9;p1,3,0;p9,0,0;p1,2,0;", 1);
        x.carry(1, 1);
        x.carry(2, 1);
        x.lorry(1);
        x.minutes(3);
        e.is("who SLEEPS, in a NOISE of 8", how(x, 1), 201);
        e.is("who LIES keeps CALM in a NOISE of 7", how(x, 2), 1);
        e.is("one who is not OUT wakes in a NOISE of 6", how(x, 3), 170);
        x = Edges.after("k1,9;p9,0,0;", 3);
        x.hand(0, 1);
        x.carry(0, 1);
        x.minutes(9);
        e.is("nor by a hand", how(x, 0), 3);
        x.carry(0, 0);
        x.minutes(1);
        e.is("brought back, it goes on", how(x, 0), 5);
    }

    private void byWhatIsAhead() {
        e.edge(10, "A MINUTE, by what is so ahead of it, for all who are not OUT");
        AsleepCots x = crier("k0,9;p1,0,3;p1,1,9;p1,3,0;");
        e.is("who wakes is not heard yet", x.minutes(1), 4);
        e.is("he is in the next", x.minutes(1), 0);
        x = Edges.after("k0,9;p1,3,0;p1,1,9;p1,0,3;", 1);
        x.lorry(1);
        e.is("nor from the other side", x.minutes(1), 1);
        e.is("he is in the next", x.minutes(1), 0);
        x = crier("k0,1;p1,0,3;p1,1,0;");
        e.is("who ceases is heard to the end", x.minutes(1) * 10 + x.stand(1), 2);
        x = Edges.after("k0,1;p1,1,0;p1,0,3;", 1);
        x.lorry(1);
        e.is("from the other side, too", x.minutes(1) * 10 + x.stand(1), 1);
        x = crier("k0,1;p1,0,3;p9,1,0;");
        x.minutes(1);
        e.is("CALM 0 by who ceases", how(x, 1), 0);
        x.minutes(1);
        e.is("then it is quiet", how(x, 1), 1);
    }

    private void hands() {
        e.edge(11, "A hand is laid on (1), or taken off (0)");
        e.range("on", 0, 1, on -> Edges.room(Edges.SEVEN).hand(0, on));
        e.edge(11, "on whom they lie (bits)");
        AsleepCots x = Edges.room(Edges.SEVEN);
        e.is("the last", x.hand(6, 1), 64);
        e.is("the first, too", x.hand(0, 1), 65);
        e.is("taken off", x.hand(6, 0), 1);
        e.is("none", x.hand(0, 0), 0);
        e.edge(11, "BAD;");
        e.range("child", 0, 6, child -> Edges.room(Edges.SEVEN).hand(child, 1));
        e.is("no ROOM, no CHILD", Edges.none().hand(0, 1), BAD);
        e.is("ahead of STATE", x.hand(7, 0), BAD);
        e.is("one of one", Edges.room(Edges.WAKEFUL).hand(0, 1), 1);
        e.is("a second of one", Edges.room(Edges.WAKEFUL).hand(1, 1), BAD);
        e.edge(11, "STATE: it is so");
        x = Edges.room(Edges.SEVEN);
        e.is("none lies on him", x.hand(3, 0), STATE);
        x.hand(3, 1);
        e.is("one lies on him", x.hand(3, 1), STATE);
        e.is("none lies on another", x.hand(4, 0), STATE);
        x.hand(3, 0);
        e.is("none any more", x.hand(3, 0), STATE);
        e.is("no ACT", x.count(6), 2);
    }

    private void handsFull() {
        e.edge(11, "FULL: WOMEN have no more");
        for (int women = 0; women <= 3; women++) {
            AsleepCots x = Edges.room("k" + women + ",1;" + "p1,0,0;".repeat(7));
            for (int c = 0; c < women; c++) {
                e.is("hand " + c + " of " + women, x.hand(c, 1), (2 << c) - 1);
            }
            e.is("one more than " + women, x.hand(6, 1), FULL);
            e.is("BAD is first", x.hand(7, 1), BAD);
            e.is("STATE is first", x.hand(0, women > 0 ? 1 : 0), STATE);
        }
        e.edge(11, "hands on WOMEN CHILDREN at most");
        AsleepCots x = Edges.room("k1,1;p1,0,0;p1,0,0;");
        x.hand(0, 1);
        x.carry(0, 1);
        e.is("who is OUT has one of them", x.hand(1, 1), FULL);
        x.hand(0, 0);
        e.is("taken off, there is one", x.hand(1, 1), 2);
        x.undo();
        x.undo();
        e.is("undone, there is none", x.hand(1, 1), FULL);
    }

    private void carried() {
        e.edge(12, "Carried OUT (1), or brought back (0)");
        e.range("out", 0, 1, out -> Edges.room(Edges.SEVEN).carry(0, out));
        e.edge(12, "who is OUT (bits)");
        AsleepCots x = Edges.room(Edges.SEVEN);
        for (int c = 0; c <= 6; c++) {
            e.is("carried OUT " + c, x.carry(c, 1), (2 << c) - 1);
        }
        e.is("brought back", x.carry(0, 0), 126);
        e.edge(12, "BAD;");
        e.range("child", 0, 6, child -> Edges.room(Edges.SEVEN).carry(child, 1));
        e.is("no ROOM, no CHILD", Edges.none().carry(0, 1), BAD);
        e.is("ahead of STATE", x.carry(1, 2), BAD);
        e.edge(12, "STATE: it is so");
        x = Edges.room(Edges.SEVEN);
        e.is("he is in", x.carry(6, 0), STATE);
        x.carry(6, 1);
        e.is("he is OUT", x.carry(6, 1), STATE);
        e.is("another is in", x.carry(5, 0), STATE);
        x.carry(6, 0);
        e.is("he is in again", x.carry(6, 0), STATE);
        e.is("no ACT", x.count(6), 2);
    }

    private void changed() {
        e.edge(13, "Two change COTS: in which the first one is then");
        AsleepCots x = Edges.room(Edges.SEVEN);
        e.is("the ends", x.change(0, 6), 6);
        e.is("the other", x.child(6, 3), 0);
        e.is("from there", x.change(6, 1), 1);
        e.is("the other", x.child(1, 3), 0);
        x.carry(1, 1);
        e.is("who is OUT has his COT", x.change(2, 1), 0);
        e.edge(13, "BAD: alike, too");
        e.is("alike", x.change(3, 3), BAD);
        e.is("alike, one of one", Edges.room(Edges.WAKEFUL).change(0, 0), BAD);
        e.range("the first", 0, 6, c -> Edges.room(Edges.SEVEN).change(c, 3));
        e.range("the other", 0, 6, c -> Edges.room(Edges.SEVEN).change(3, c));
        e.is("no ROOM, no CHILD", Edges.none().change(0, 1), BAD);
        e.is("no ACT", x.count(6), 4);
    }

    private void lorries() {
        e.edge(14, "BAD;");
        e.range("noise", 0, 99, noise -> Edges.room(Edges.SEVEN).lorry(noise));
        e.edge(14, "A LORRY (0 to 99)");
        e.is("0 wakes nobody", Edges.after(Edges.SEVEN, 1).lorry(0), 0);
        e.is("1 wakes all who hold nothing", Edges.after(Edges.SEVEN, 1).lorry(1), 7);
        e.is("99, too", Edges.after(Edges.SEVEN, 1).lorry(99), 7);
        e.edge(14, "if that is more than they BEAR");
        String[] kinds = {"p1,9,0;", "l1,9,0;", "d1,9,0;", "t1,9,0;", "p1,0,0;", "d1,0,0;"};
        int[] bears = {9, 9, 18, 18, 0, 0};
        for (int k = 0; k < kinds.length; k++) {
            AsleepCots x = Edges.after("k0,1;" + kinds[k], 1);
            e.is("as much, " + kinds[k], x.lorry(bears[k]), 0);
            e.is("he sleeps, " + kinds[k], x.stand(2), 1);
            e.is("one more, " + kinds[k], x.lorry(bears[k] + 1), 1);
            e.is("he does not, " + kinds[k], x.stand(2), 0);
        }
        e.edge(14, "how many woke");
        e.is("none", Edges.room(Edges.SEVEN).lorry(99), 0);
        e.is("seven", Edges.after(Edges.SEVEN, 1).lorry(99), 7);
        e.is("a still one, too", Edges.after("k0,1;t1,0,0;p1,0,0;", 1).lorry(99), 2);
        AsleepCots x = Edges.after(Edges.SEVEN, 1);
        x.carry(3, 1);
        e.is("none who is OUT", x.lorry(99), 6);
        e.is("once", x.lorry(99), 0);
        e.edge(14, "STATE: no ROOM (ahead of BAD)");
        for (int noise : new int[] {0, -1, 100}) {
            e.is("noise " + noise, Edges.none().lorry(noise), STATE);
        }
    }

    private void lorriesLeave() {
        e.edge(14, "(they CRY, a still one LIES); all others stay as they are");
        AsleepCots x = Edges.after("k1,5;p1,0,9;t1,0,9;p9,0,9;p1,0,9;p1,0,9;", 1);
        x.carry(3, 1);
        x.carry(4, 1);
        x.lorry(99);
        e.is("he CRIES", how(x, 0), 150);
        e.is("a still one LIES", how(x, 1), 0);
        e.is("who LIES keeps CALM", how(x, 2), 1);
        e.is("who is OUT SLEEPS", how(x, 3), 201);
        x.minutes(2);
        x.carry(3, 0);
        x.lorry(99);
        e.is("who CRIES does so as before", how(x, 0), 130);
        e.is("brought back, he CRIES", how(x, 3), 150);
        e.is("MINUTE stays", x.count(2), 3);
        x = Edges.after("k1,5;p1,0,0;", 1);
        x.hand(0, 1);
        x.lorry(1);
        e.is("a hand is no help", how(x, 0), 150);
    }

    private void needs() {
        e.edge(15, "NEED (1 to 9)");
        e.range("n", 1, 9, n -> Edges.room(Edges.SEVEN).need(0, n));
        e.edge(15, "what it was");
        AsleepCots x = Edges.room("k0,1;p5,0,0;");
        e.is("5", x.need(0, 9), 5);
        e.is("9", x.need(0, 1), 9);
        e.is("1", x.need(0, 1), 1);
        e.edge(15, "BAD");
        e.range("child", 0, 6, child -> Edges.room(Edges.SEVEN).need(child, 1));
        e.is("no ROOM, no CHILD", Edges.none().need(0, 1), BAD);
    }

    private void child() {
        e.edge(16, "0 NEED, 1 HOLDS, 2 VOICE, 3 the COT, 4 how he is (0 LIES, 1 CRIES, 2 SLEEPS)");
        e.range("what", 0, 7, what -> Edges.room(Edges.SEVEN).child(0, what));
        AsleepCots x = Edges.threeWoken();
        x.change(0, 2);
        int[][] want = {{1, 2, 6, 2, 1, 3, 0, 0}, {2, 1, 3, 1, 0, 0, 0, 5}, {3, 4, 2, 0, 2, 0, 3, 4}};
        for (int c = 0; c < 3; c++) {
            for (int what = 0; what <= 7; what++) {
                e.is("child(" + c + ", " + what + ")", x.child(c, what), want[c][what]);
            }
        }
        e.edge(16, "5 for how many MINUTES he CRIES (0)");
        e.is("who LIES", x.child(1, 5), 0);
        e.is("who SLEEPS", x.child(2, 5), 0);
        x.minutes(3);
        e.is("who has ceased", x.child(0, 5), 0);
        e.edge(16, "BAD");
        e.range("child", 0, 6, child -> Edges.room(Edges.SEVEN).child(child, 0));
        e.is("no ROOM, no CHILD", Edges.none().child(0, 0), BAD);
        e.edge(16, "Numbers go from 0 on");
        e.is("the first is 0", Edges.room("k0,1;p7,0,0;").child(0, 0), 7);
    }

    private void noiseAtACot() {
        e.edge(16, "CALLS less how far their COT is from it (0 at least), together");
        for (int voice = 0; voice <= 9; voice++) {
            AsleepCots x = crier("k0,9;p1,0," + voice + ";" + "p1,9,0;".repeat(6));
            for (int c = 1; c <= 6; c++) {
                e.is("VOICE " + voice + " at " + c, x.child(c, 7), voice > c ? voice - c : 0);
            }
        }
        AsleepCots x = Edges.after("k0,9;p1,0,1;p1,9,0;p1,9,0;p1,9,0;p1,0,9;", 1);
        x.lorry(1);
        e.is("what is too far takes nothing off", x.child(3, 7), 8);
        e.is("0 and 7", x.child(2, 7), 7);
        e.is("0 and 6", x.child(1, 7), 6);
        x = Edges.after("k0,9;p1,0,9;p1,9,0;p1,0,9;", 1);
        x.lorry(1);
        e.is("8 and 8", x.child(1, 7), 16);
        e.edge(16, "CALLS: VOICE; of a loud one twice that");
        x = crier("k0,9;l1,0,9;" + "p1,9,0;".repeat(6));
        e.is("18 less 6", x.child(6, 7), 12);
        x = crier("k0,9;l1,0,3;" + "p1,9,0;".repeat(6));
        e.is("6 less 6", x.child(6, 7), 0);
        e.is("6 less 5", x.child(5, 7), 1);
        x = crier("k0,9;d1,0,3;p1,9,0;");
        e.is("a deep one once", x.child(1, 7), 2);
    }

    private void noiseOfWhom() {
        e.edge(16, "of all others who CRY and are not OUT");
        AsleepCots x = crier("k0,9;p1,0,9;p9,9,9;p1,9,9;");
        e.is("himself not", x.child(0, 7), 0);
        e.is("nor who LIES or SLEEPS", x.child(1, 7), 8);
        x.carry(1, 1);
        e.is("at the COT of who is OUT", x.child(1, 7), 8);
        x.carry(0, 1);
        e.is("who is OUT is not heard", x.child(2, 7), 0);
        x.carry(0, 0);
        x.change(0, 1);
        e.is("by COTS, not by numbers", x.child(2, 7), 8);
    }

    private void stands() {
        e.edge(17, "BAD;");
        e.range("what", 0, 4, what -> Edges.room(Edges.SEVEN).stand(what));
        e.edge(17, "CHILDREN (bits): 0 LIE, 1 CRY, 2 SLEEP, 3 OUT, 4 on whom hands lie");
        AsleepCots x = Edges.threeWoken();
        x.carry(0, 1);
        x.carry(2, 1);
        x.hand(1, 1);
        e.is("LIE", x.stand(0), 2);
        e.is("CRY", x.stand(1), 1);
        e.is("SLEEP", x.stand(2), 4);
        e.is("OUT", x.stand(3), 5);
        e.is("hands", x.stand(4), 2);
        e.edge(17, "Sets are bits");
        x = Edges.room(Edges.SEVEN);
        e.is("all seven LIE", x.stand(0), 127);
        x.minutes(1);
        e.is("all seven SLEEP", x.stand(2), 127);
        x.lorry(9);
        e.is("all seven CRY", x.stand(1), 127);
        e.edge(17, "STATE: no ROOM (ahead of BAD)");
        for (int what : new int[] {0, 4, -1, 5}) {
            e.is("what " + what, Edges.none().stand(what), STATE);
        }
    }

    private void changesNothing() {
        e.refused(10, "minutes(0)", BAD, x -> x.minutes(0));
        e.refused(10, "minutes(25)", BAD, x -> x.minutes(25));
        e.refused(11, "hand(3, 1)", BAD, x -> x.hand(3, 1));
        e.refused(11, "hand(1, 2)", BAD, x -> x.hand(1, 2));
        e.refused(11, "hand(0, 1)", STATE, x -> x.hand(0, 1));
        e.refused(11, "hand(1, 0)", STATE, x -> x.hand(1, 0));
        e.refused(11, "hand(1, 1)", FULL, x -> x.hand(1, 1));
        e.refused(12, "carry(-1, 1)", BAD, x -> x.carry(-1, 1));
        e.refused(12, "carry(1, -1)", BAD, x -> x.carry(1, -1));
        e.refused(12, "carry(2, 1)", STATE, x -> x.carry(2, 1));
        e.refused(12, "carry(1, 0)", STATE, x -> x.carry(1, 0));
        e.refused(13, "change(1, 1)", BAD, x -> x.change(1, 1));
        e.refused(13, "change(1, 3)", BAD, x -> x.change(1, 3));
        e.refused(14, "lorry(100)", BAD, x -> x.lorry(100));
        e.refused(14, "lorry(-1)", BAD, x -> x.lorry(-1));
        e.refused(15, "need(0, 0)", BAD, x -> x.need(0, 0));
        e.refused(15, "need(0, 10)", BAD, x -> x.need(0, 10));
        e.refused(15, "need(3, 5)", BAD, x -> x.need(3, 5));
        e.refused(16, "child(3, 0)", BAD, x -> x.child(3, 0));
        e.refused(16, "child(0, 8)", BAD, x -> x.child(0, 8));
        e.refused(17, "stand(5)", BAD, x -> x.stand(5));
    }

    private void plansRefused() {
        e.edge(10, "What is refused, or found, changes nothing but status()");
        AsleepCots x = nearTheEnd();
        AsleepCots y = nearTheEnd();
        e.is("minutes(24) near 999", x.minutes(24), FULL);
        e.same("minutes(24) near 999", Look.at(x), Look.at(y));
    }

    private static AsleepCots nearTheEnd() {
        AsleepCots x = Look.rich();
        for (int i = 0; i < 41; i++) {
            x.minutes(24);
        }
        return x;
    }
}
