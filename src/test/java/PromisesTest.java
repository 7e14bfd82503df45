/** Each promise of the document by itself: ordinary inputs, the edges it names, wrong inputs. */
public final class PromisesTest {
    private static final int NONE = -1000000, BAD = -1000001, STATE = -1000002, FULL = -1000003;
    private static final int NULL = -1000011, PLACE = -1000012, KIND = -1000013, SIZE = -1000014, STORE = -1000015;
    private static final int LOW = Integer.MIN_VALUE, HIGH = Integer.MAX_VALUE;

    /** All sleep behind three minutes; a lorry of 3 wakes child 0, who cries, and child 1, who lies. */
    private static final String THREE = "k1,3;p1,2,6;t2,1,3;l3,4,2;";
    /** Nobody sleeps for eight minutes, four with a hand: so a row of zeros fits. */
    private static final String WAKEFUL = "k1,2;p9,0,0;";

    private static final Due DUE = new Due("PromisesTest");
    private static int promise;

    public static void main(String[] args) {
        newObject();
        rows();
        copies();
        drops();
        tape();
        goodTexts();
        faults();
        undone();
        undoneByKind();
        minutes();
        minuteRules();
        hands();
        carries();
        changes();
        lorryNow();
        needs();
        child();
        stands();
        foretold();
        dinner();
        plannedHands();
        plannedOuts();
        plannedChange();
        silence();
        wakes();
        loudest();
        who();
        held();
        lorries();
        drawn();
        images();
        kinds();
        asks();
        counts();
        status();
        DUE.end();
    }

    private static void is(String call, long got, long want) {
        DUE.is("promise " + promise + ": " + call, got, want);
    }

    private static AsleepCots threeAsleep() {
        AsleepCots x = Due.roomOf(THREE);
        x.minutes(3);
        return x;
    }

    private static AsleepCots threeWoken() {
        AsleepCots x = threeAsleep();
        x.lorry(3);
        return x;
    }

    private static void newObject() {
        promise = 1;
        AsleepCots x = new AsleepCots();
        for (int what = 0; what <= 7; what++) {
            is("count(" + what + ")", x.count(what), 0);
        }
        is("status", x.status(), 0);
        is("fault", x.fault(), 0);
        is("trace", x.trace(0), NONE);
        is("stand ahead of BAD", x.stand(9), STATE);
        is("ahead ahead of BAD", x.ahead(-1, 9), STATE);
        is("minutes ahead of BAD", x.minutes(0), STATE);
        is("lorry ahead of BAD", x.lorry(100), STATE);
        is("dinner ahead of BAD", x.dinner(0), STATE);
        is("hands ahead of BAD", x.hands(0, 2), STATE);
        is("outs ahead of BAD", x.outs(0, 2), STATE);
        is("best ahead of BAD", x.best(0, 2), STATE);
        is("held ahead of BAD", x.held(8, 0, 0), STATE);
        is("lorries ahead of BAD", x.lorries(-1, 9, 11, 2), STATE);
        is("drawn ahead of BAD", x.drawn(61, 0, 2), STATE);
        is("allAsleep", x.allAsleep(), STATE);
        is("silence", x.silence(), STATE);
        is("loudest", x.loudest(), STATE);
        is("child", x.child(0, 0), BAD);
        is("kind", x.kind(0), BAD);
        is("image: BAD is first", x.image(2), BAD);
        is("image", x.image(1), STATE);
        is("restore", x.restore(1), STATE);
        is("undo", x.undo(), STATE);
        is("NONE", AsleepCots.NONE, NONE);
        is("BAD", AsleepCots.BAD, BAD);
        is("STATE", AsleepCots.STATE, STATE);
        is("FULL", AsleepCots.FULL, FULL);
    }

    private static void rows() {
        promise = 2;
        AsleepCots x = Due.roomOf(WAKEFUL);
        is("row(0,0,0)", x.row(0, 0, 0), 0);
        is("row(7,2,40)", x.row(7, 2, 40), 40);
        is("row(-1)", x.row(-1, 0, 1), BAD);
        is("row(8)", x.row(8, 0, 1), BAD);
        is("lane -1", x.row(1, -1, 1), BAD);
        is("lane 3", x.row(1, 3, 1), BAD);
        is("n 41", x.row(1, 0, 41), BAD);
        is("BAD ahead of SIZE", x.row(8, 0, -1), BAD);
        is("rows", x.count(0), 2);
        is("items 0 at first", x.held(7, 0, 4), 129);
        is("set", x.set(7, 3, 5), 5);
        is("an item is set", x.held(7, 0, 4), 0);
        x.set(7, 0, 5);
        is("SIZE", x.row(7, 0, -1), SIZE);
        is("SIZE, far", x.row(7, 0, LOW), SIZE);
        is("found, it stays", x.held(7, 0, 4), 0);
        is("in place", x.row(7, 1, 4), 4);
        is("in place, 0 again", x.held(7, 0, 4), 129);
        is("of the new size", x.set(7, 4, 0), PLACE);
        is("of the new lane", x.set(7, 0, 40000), -25536);

        promise = 3;
        x.row(0, 0, 2);
        x.row(1, 1, 2);
        x.row(2, 2, 2);
        is("byte", x.set(0, 0, 200), -56);
        is("byte, cut", x.set(0, 1, 256), 0);
        is("byte, 127", x.set(0, 1, 127), 127);
        is("short", x.set(1, 0, 65535), -1);
        is("short, cut", x.set(1, 1, 65536), 0);
        is("short, 32767", x.set(1, 1, 32767), 32767);
        is("int", x.set(2, 0, LOW), LOW);
        is("int, 65536", x.set(2, 1, 65536), 65536);
        is("BAD", x.set(8, 0, 0), BAD);
        is("BAD below", x.set(-1, 0, 0), BAD);
        is("NULL", x.set(5, -1, 0), NULL);
        is("PLACE below", x.set(0, -1, 0), PLACE);
        is("PLACE beyond", x.set(0, 2, 0), PLACE);
        is("PLACE far", x.set(0, HIGH, 0), PLACE);
        is("PLACE far below", x.set(0, LOW, 0), PLACE);
    }

    private static void copies() {
        promise = 4;
        AsleepCots x = Due.roomOf(WAKEFUL);
        x.row(0, 0, 6);
        x.row(1, 0, 4);
        x.row(2, 1, 4);
        x.set(0, 0, 1);
        is("to another", x.copy(0, 0, 1, 3, 1), 1);
        is("comes to", x.held(1, 3, 1), 0);
        is("nothing beside", x.held(1, 0, 3), 129);
        is("upwards over itself", x.copy(0, 0, 0, 1, 5), 5);
        is("as they were ahead", x.held(0, 2, 4), 129);
        is("moved", x.held(0, 1, 1), 0);
        is("downwards over itself", x.copy(0, 1, 0, 0, 5), 5);
        is("moved down", x.held(0, 0, 1), 0);
        is("the rest", x.held(0, 1, 4), 129);
        is("none at the ends", x.copy(0, 6, 1, 4, 0), 0);
        is("BAD a", x.copy(8, 0, 1, 0, 1), BAD);
        is("BAD b", x.copy(0, 0, -1, 0, 1), BAD);
        is("BAD ahead of NULL", x.copy(5, 0, 8, 0, 1), BAD);
        is("NULL a", x.copy(5, 0, 1, 0, 1), NULL);
        is("NULL b", x.copy(1, 0, 5, 0, 1), NULL);
        is("NULL ahead of PLACE", x.copy(5, -1, 1, 0, 1), NULL);
        is("STORE", x.copy(0, 0, 2, 0, 1), STORE);
        is("STORE even of none", x.copy(0, 0, 2, 0, 0), STORE);
        is("STORE ahead of PLACE", x.copy(0, -1, 2, 0, 1), STORE);
        is("PLACE i", x.copy(0, -1, 1, 0, 1), PLACE);
        is("PLACE j", x.copy(0, 0, 1, -1, 1), PLACE);
        is("PLACE n", x.copy(0, 0, 1, 0, -1), PLACE);
        is("PLACE end of a", x.copy(1, 2, 0, 0, 3), PLACE);
        is("PLACE end of b", x.copy(0, 0, 1, 0, 5), PLACE);
        is("PLACE none beyond", x.copy(0, 7, 1, 0, 0), PLACE);
        is("PLACE far", x.copy(0, HIGH, 1, HIGH, HIGH), PLACE);
        is("PLACE n far", x.copy(0, 1, 1, 1, HIGH), PLACE);
        is("PLACE n far below", x.copy(0, 1, 1, 1, LOW), PLACE);
        is("PLACE i far", x.copy(0, HIGH, 1, 0, 1), PLACE);
        is("found, nothing changed", x.held(1, 0, 3), 129);
    }

    private static void drops() {
        promise = 5;
        AsleepCots x = new AsleepCots();
        x.row(3, 2, 17);
        x.row(4, 1, 0);
        is("drop", x.drop(3), 17);
        is("missing now", x.drop(3), NULL);
        is("set on it", x.set(3, 0, 0), NULL);
        is("rows", x.count(0), 1);
        is("drop of none", x.drop(4), 0);
        is("BAD", x.drop(8), BAD);
        is("BAD below", x.drop(-1), BAD);
        is("rows none", x.count(0), 0);
    }

    private static void tape() {
        promise = 6;
        AsleepCots x = new AsleepCots();
        is("BAD below", x.feed(-1), BAD);
        is("BAD above", x.feed(256), BAD);
        is("0", x.feed(0), 1);
        is("255", x.feed(255), 2);
        for (int i = 3; i <= 120; i++) {
            is("byte " + i, x.feed('p'), i);
        }
        is("FULL", x.feed('p'), FULL);
        is("BAD ahead of FULL", x.feed(256), BAD);
        is("bytes", x.count(7), 120);
        is("read", x.room(), -1000100);
        is("empty then", x.count(7), 0);
        is("anew", x.feed('k'), 1);
    }

    private static void goodTexts() {
        promise = 7;
        AsleepCots x = Due.fed("k03,09;p01,00,09;l9,9,0;s5,05,5;");
        is("figures by two", x.room(), 3);
        is("NEED", x.child(0, 0), 1);
        is("HOLDS", x.child(0, 1), 0);
        is("VOICE", x.child(0, 2), 9);
        is("NEED 9", x.child(1, 0), 9);
        is("COT", x.child(2, 3), 2);
        is("WOMEN", x.hand(0, 1) + x.hand(1, 1) + x.hand(2, 1), 1 + 3 + 7);
        x.minutes(2);
        x.carry(1, 1);
        x.change(0, 2);
        Due.feed(x, "k0,1;t1,1,1;d2,2,2;");
        is("in place", x.room(), 2);
        is("MINUTE 0", x.count(2), 0);
        is("all LIE", x.stand(0), 3);
        is("nobody OUT", x.stand(3), 0);
        is("no hands", x.stand(4), 0);
        is("no ACT", x.undo(), STATE);
        is("CALM 0", x.child(0, 6), 0);
        is("COT of its number", x.child(0, 3), 0);
        is("no women", x.hand(0, 1), FULL);
        is("seven", Due.feed(x, "k0,1;" + "p1,1,1;".repeat(7)).room(), 7);
        x.minutes(1);
        is("a fault", Due.feed(x, "k0,1;").room(), -1000105);
        is("all stays: CHILDREN", x.count(1), 7);
        is("all stays: MINUTE", x.count(2), 1);
        is("all stays: ACTS", x.count(6), 1);
        is("the tape is empty then", x.count(7), 0);
    }

    private static void fault(String text, int place, int number) {
        AsleepCots x = Due.fed(text);
        promise = 7;
        is("room of " + text, x.room(), -1000100 - place);
        promise = 8;
        is("fault of " + text, x.fault(), number);
    }

    private static void faults() {
        String seven = "k0,1;" + "p1,1,1;".repeat(7);
        fault("", 0, 1);
        fault("K0,1;p1,1,1;", 0, 1);
        fault("p1,1,1;", 0, 1);
        fault("1", 0, 1);
        fault("k", 1, 1);
        fault("kk", 1, 1);
        fault("k,", 1, 1);
        fault("k0", 2, 1);
        fault("k0;", 2, 1);
        fault("k0,", 3, 1);
        fault("k0,1", 4, 1);
        fault("k0,1,", 4, 1);
        fault("k0,1;", 5, 1);
        fault("k4,1;", 1, 2);
        fault("k10,0;", 1, 2);
        fault("k003,1;", 1, 1);
        fault("k0000,1;", 1, 1);
        fault("k0,0;", 3, 2);
        fault("k0,10;", 3, 2);
        fault("k0,009;", 3, 1);
        fault("k 0,1;", 1, 1);
        fault("k0,1; p1,1,1;", 5, 1);
        fault("k0,1;x1,1,1;", 5, 1);
        fault("k0,1;,", 5, 1);
        fault("k0,1;123", 5, 1);
        fault("k0,1;p", 6, 1);
        fault("k0,1;p0,1,1;", 6, 2);
        fault("k0,1;p10,1,1;", 6, 2);
        fault("k0,1;p1", 7, 1);
        fault("k0,1;p1;", 7, 1);
        fault("k0,1;p1,10,1;", 8, 2);
        fault("k0,1;p1,1;", 9, 1);
        fault("k0,1;p1,1,10;", 10, 2);
        fault("k0,1;p1,1,1", 11, 1);
        fault("k0,1;p1,1,1,", 11, 1);
        fault("k0,1;p1,1,1;k", 12, 1);
        fault("k0,1;p1,1,1;p", 13, 1);
        fault("k0,1;p1,1,1;" + (char) 233, 12, 1);
        fault("k0,1;p1,1,1;" + (char) 0, 12, 1);
        fault("k/,", 1, 1);
        fault("k:,", 1, 1);
        fault(seven + "p", 54, 3);
        fault(seven + "t1,1,1;", 54, 3);
        fault(seven + "k", 54, 1);
        fault(seven + ";", 54, 1);
        fault("k9,1;" + "p1,1,1;".repeat(8), 1, 2);

        promise = 8;
        AsleepCots x = Due.fed("k4");
        is("none before", x.fault(), 0);
        x.room();
        is("latest", x.fault(), 2);
        Due.feed(x, WAKEFUL).room();
        is("latest yet", x.fault(), 2);
        x.room();
        is("a later one", x.fault(), 1);
    }

    private static void undone() {
        promise = 9;
        AsleepCots x = Due.roomOf(THREE);
        is("none", x.undo(), STATE);
        x.minutes(24);
        is("24", x.count(6), 24);
        x.minutes(2);
        is("24 at most", x.count(6), 24);
        for (int left = 23; left >= 0; left--) {
            is("left", x.undo(), left);
            is("MINUTE", x.count(2), left + 2);
        }
        is("the oldest are forgotten", x.undo(), STATE);
        is("so SLEEP", x.stand(2), 3);
        is("anew", x.minutes(1), 7);
        is("undone anew", x.undo(), 0);
        is("as it was", x.stand(2), 3);
    }

    private static void undoneByKind() {
        promise = 9;
        AsleepCots x = threeAsleep();
        x.hand(1, 1);
        x.carry(2, 1);
        x.change(0, 2);
        x.lorry(50);
        x.need(0, 7);
        is("six kinds", x.count(6), 8);
        is("need undone", x.undo(), 7);
        is("NEED", x.child(0, 0), 1);
        is("lorry undone", x.undo(), 6);
        is("SLEEP", x.stand(2), 7);
        is("CALM", x.child(1, 6), 2);
        is("change undone", x.undo(), 5);
        is("COT", x.child(0, 3) * 10 + x.child(2, 3), 2);
        is("carry undone", x.undo(), 4);
        is("OUT", x.stand(3), 0);
        is("hand undone", x.undo(), 3);
        is("hands", x.stand(4), 0);
        is("minute undone", x.undo(), 2);
        is("SLEEP", x.stand(2), 3);
        is("refused is no ACT", x.hand(9, 1) + (long) x.carry(0, 0) + x.change(1, 1), (long) BAD + STATE + BAD);
        is("ACTS", x.count(6), 2);
        is("a lorry that wakes nobody is one", x.lorry(0), 0);
        is("ACTS", x.count(6), 3);
        is("the same NEED is one", x.need(0, 1), 1);
        is("ACTS", x.count(6), 4);
    }

    private static void minutes() {
        promise = 10;
        AsleepCots x = Due.roomOf(THREE);
        is("1", x.minutes(1), 1);
        is("2", x.minutes(1), 3);
        is("3", x.minutes(1), 7);
        is("BAD 0", x.minutes(0), BAD);
        is("BAD 25", x.minutes(25), BAD);
        is("BAD far", x.minutes(HIGH), BAD);
        is("MINUTE", x.count(2), 3);
        for (int i = 0; i < 41; i++) {
            x.minutes(24);
        }
        is("MINUTE 987", x.count(2), 987);
        is("FULL", x.minutes(13), FULL);
        is("BAD ahead of FULL", x.minutes(25), BAD);
        is("it stays", x.count(2), 987);
        is("to 999", x.minutes(12), 7);
        is("MINUTE 999", x.count(2), 999);
        is("FULL at 999", x.minutes(1), FULL);
        is("foretold beyond", x.ahead(60, 2), 7);
    }

    private static void minuteRules() {
        promise = 10;
        AsleepCots x = threeWoken();
        is("1: child 2 bears 4", x.minutes(1), 4);
        is("CRIES 2 more", x.child(0, 5), 2);
        is("CALM 0 by NOISE", x.child(1, 6), 0);
        is("2", x.minutes(1), 4);
        is("3: LIES", x.minutes(1) * 10 + x.stand(0), 43);
        is("by what was ahead: CALM 0", x.child(1, 6), 0);
        is("4", x.minutes(1), 5);
        is("5", x.minutes(1), 7);

        x = threeWoken();
        x.hand(0, 1);
        x.minutes(1);
        is("two less by a hand", x.child(0, 5), 1);
        x.minutes(1);
        is("none left", x.child(0, 4) * 100 + x.child(0, 5) * 10 + x.child(0, 6), 0);
        is("two more by a hand", x.minutes(1) * 10 + x.child(0, 6), 52);

        x = threeWoken();
        x.hand(0, 1);
        x.carry(0, 1);
        is("OUT, not heard", x.minutes(1), 4);
        is("OUT, one less though a hand lies on him", x.child(0, 5), 2);
        is("CALM grows", x.child(1, 6), 1);
        x.minutes(9);
        is("OUT, LIES, and nothing becomes of him", x.child(0, 4) * 10 + x.child(0, 6), 0);

        x = Due.roomOf("k1,2;s3,0,0;");
        x.minutes(5);
        is("the song: none without a hand", x.child(0, 6), 0);
        x.hand(0, 1);
        x.minutes(1);
        is("the song: two", x.child(0, 6), 2);
        x.hand(0, 0);
        is("less is wanted: by what he has", (x.need(0, 2) - 3) * 10 + x.minutes(1), 1);

        x = Due.roomOf("k0,2;l9,0,3;p1,3,0;d1,2,0;t1,2,0;d1,1,0;");
        x.minutes(9);
        is("all", x.stand(2), 31);
        x.lorry(1);
        is("the loud one alone", x.stand(1), 1);
        is("calls 6: 5 4 3 2 heard; 3 4 4 2 borne", x.minutes(1), 28);
        is("the plain one cries", x.child(1, 4) * 10 + x.child(1, 5), 12);
        is("they stay asleep with their CALM", x.child(2, 6), 1);
        x = Due.roomOf("k0,2;l9,0,4;p1,9,0;t1,2,0;d1,2,0;");
        x.minutes(9);
        x.lorry(1);
        is("6 is more than a still one's 4, 5 than a deep one's", x.minutes(1), 2);
        is("the still one LIES, the deep one CRIES", x.stand(0) * 100 + x.stand(1), 409);
    }

    private static void hands() {
        promise = 11;
        AsleepCots x = Due.roomOf("k2,3;p1,2,6;t2,1,3;l3,4,2;");
        is("BAD child", x.hand(3, 1), BAD);
        is("BAD child below", x.hand(-1, 1), BAD);
        is("BAD on", x.hand(0, 2), BAD);
        is("BAD on below", x.hand(0, -1), BAD);
        is("STATE: none lies", x.hand(0, 0), STATE);
        is("laid on", x.hand(2, 1), 4);
        is("STATE: it lies", x.hand(2, 1), STATE);
        is("a second", x.hand(0, 1), 5);
        is("STATE ahead of FULL", x.hand(0, 1), STATE);
        is("FULL", x.hand(1, 1), FULL);
        is("refused, no ACT", x.count(6), 2);
        is("taken off", x.hand(2, 0), 1);
        is("free again", x.hand(1, 1), 3);
        x.hand(1, 0);
        x.carry(1, 1);
        is("on one who is OUT", x.hand(1, 1), 3);
    }

    private static void carries() {
        promise = 12;
        AsleepCots x = Due.roomOf(THREE);
        is("BAD child", x.carry(3, 1), BAD);
        is("BAD child below", x.carry(LOW, 1), BAD);
        is("BAD out", x.carry(0, 2), BAD);
        is("STATE: he is in", x.carry(0, 0), STATE);
        is("OUT", x.carry(2, 1), 4);
        is("another", x.carry(0, 1), 5);
        is("STATE: he is out", x.carry(2, 1), STATE);
        is("brought back", x.carry(2, 0), 1);
        is("who is in sleeps on", x.minutes(3), 6);
        is("ACTS", x.count(6), 6);
    }

    private static void changes() {
        promise = 13;
        AsleepCots x = Due.roomOf(THREE);
        is("BAD alike", x.change(1, 1), BAD);
        is("BAD first", x.change(3, 1), BAD);
        is("BAD other", x.change(1, -1), BAD);
        is("BAD other above", x.change(1, 3), BAD);
        is("0 and 2", x.change(0, 2), 2);
        is("2 is in 0", x.child(2, 3), 0);
        is("0 and 1", x.change(0, 1), 1);
        is("1 is in 2", x.child(1, 3), 2);
        is("1 and 2", x.change(1, 2), 0);
        is("ACTS", x.count(6), 3);
    }

    private static void lorryNow() {
        promise = 14;
        AsleepCots x = threeAsleep();
        is("BAD below", x.lorry(-1), BAD);
        is("BAD above", x.lorry(100), BAD);
        is("none is woken by what he bears", x.lorry(2), 0);
        is("two wake", x.lorry(3), 2);
        is("CRIES", x.stand(1), 1);
        is("for 3", x.child(0, 5), 3);
        is("a still one LIES", x.stand(0), 2);
        is("CALM 0", x.child(0, 6) + x.child(1, 6), 0);
        is("the others stay", x.child(2, 4) * 10 + x.child(2, 6), 23);
        is("MINUTE stays", x.count(2), 3);
        x.minutes(1);
        is("who cries, cries on", x.lorry(99) * 10 + x.child(0, 5), 12);
        x = threeAsleep();
        x.carry(0, 1);
        is("not who is OUT", x.lorry(99), 2);
        is("he sleeps", x.stand(2), 1);
        x = Due.roomOf("k0,1;p2,0,0;");
        x.minutes(1);
        x.lorry(99);
        is("who LIES, keeps his CALM", x.child(0, 6), 1);
    }

    private static void needs() {
        promise = 15;
        AsleepCots x = Due.roomOf(THREE);
        is("BAD 0", x.need(0, 0), BAD);
        is("BAD 10", x.need(0, 10), BAD);
        is("BAD child", x.need(3, 1), BAD);
        is("was 3", x.need(2, 9), 3);
        is("was 9", x.need(2, 1), 9);
        is("NEED", x.child(2, 0), 1);
        is("so he sleeps", x.minutes(1), 5);
        is("ACTS", x.count(6), 3);
    }

    private static void child() {
        promise = 16;
        AsleepCots x = threeWoken();
        int[][] want = {{1, 2, 6, 0, 1, 3, 0, 0}, {2, 1, 3, 1, 0, 0, 0, 5}, {3, 4, 2, 2, 2, 0, 3, 4}};
        for (int c = 0; c < 3; c++) {
            for (int what = 0; what < 8; what++) {
                is("child(" + c + ", " + what + ")", x.child(c, what), want[c][what]);
            }
        }
        is("BAD child", x.child(3, 0), BAD);
        is("BAD child below", x.child(-1, 0), BAD);
        is("BAD what", x.child(0, 8), BAD);
        is("BAD what below", x.child(0, -1), BAD);
        x.carry(0, 1);
        is("NOISE: who is OUT is not heard", x.child(1, 7), 0);
        x = Due.roomOf("k0,1;p1,0,1;l1,0,2;p1,0,0;p1,0,9;");
        x.minutes(1);
        x.lorry(1);
        is("NOISE: far ones count none, not less", x.child(0, 7), 4 - 1 + 0 + 9 - 3);
        is("NOISE: together", x.child(1, 7), 0 + 0 + 9 - 2);
        is("NOISE: the loud one twice", x.child(3, 7), 0 + 4 - 2 + 0);
        x.change(0, 2);
        is("NOISE: by COTS", x.child(0, 7), 4 - 1 + 9 - 1);
        x.carry(0, 1);
        is("NOISE: at his COT, who is OUT himself", x.child(0, 7), 4 - 1 + 9 - 1);
    }

    private static void stands() {
        promise = 17;
        AsleepCots x = threeWoken();
        x.hand(2, 1);
        x.carry(0, 1);
        is("LIE", x.stand(0), 2);
        is("CRY, OUT too", x.stand(1), 1);
        is("SLEEP", x.stand(2), 4);
        is("OUT", x.stand(3), 1);
        is("hands", x.stand(4), 4);
        is("BAD", x.stand(5), BAD);
        is("BAD below", x.stand(-1), BAD);
    }

    private static void foretold() {
        promise = 18;
        AsleepCots x = threeWoken();
        int[] sleep = {4, 4, 4, 4, 5, 7};
        int[] cry = {1, 1, 1, 0, 0, 0};
        for (int n = 0; n < sleep.length; n++) {
            is("SLEEPS " + n, x.ahead(n, 2), sleep[n]);
            is("CRIES " + n, x.ahead(n, 1), cry[n]);
            is("LIES " + n, x.ahead(n, 0), 7 - sleep[n] - cry[n]);
        }
        is("60", x.ahead(60, 2), 7);
        is("BAD 61", x.ahead(61, 2), BAD);
        is("BAD -1", x.ahead(-1, 2), BAD);
        is("BAD how", x.ahead(0, 3), BAD);
        is("BAD how below", x.ahead(0, -1), BAD);
        is("nothing changes", x.count(2) * 10 + x.stand(2), 34);

        promise = 19;
        is("now", x.noise(1, 0), 5);
        is("at 2", x.noise(2, 0), 4);
        is("2 on", x.noise(1, 2), 5);
        is("3 on", x.noise(1, 3), 0);
        is("60 on", x.noise(1, 60), 0);
        is("BAD 61", x.noise(1, 61), BAD);
        is("BAD -1", x.noise(1, -1), BAD);
        is("BAD child", x.noise(3, 0), BAD);
        is("nothing changes", x.count(2), 3);

        promise = 20;
        is("4", x.asleep(0), 4);
        is("5", x.asleep(1), 5);
        is("now", x.asleep(2), 0);
        is("BAD", x.asleep(3), BAD);
        is("BAD below", x.asleep(-1), BAD);
        x.carry(0, 1);
        is("never OUT", x.asleep(0), NONE);
        x.carry(2, 1);
        is("OUT, he sleeps now", x.asleep(2), 0);

        promise = 21;
        x = threeWoken();
        is("5", x.allAsleep(), 5);
        x.carry(1, 1);
        is("of those who are in", x.allAsleep(), 4);
        x.carry(0, 1);
        is("now", x.allAsleep(), 0);
        x.carry(2, 1);
        is("nobody is in", x.allAsleep(), 0);
        is("never", Due.roomOf("k0,1;s1,0,0;").allAsleep(), NONE);
        is("nothing changes", x.count(2), 3);

        lateSleepers();
    }

    /** The longest that one can stay awake without the song: nine minutes of crying, nine of lying. */
    private static void lateSleepers() {
        AsleepCots x = Due.roomOf("k0,9;p9,0,0;p9,0,9;");
        x.minutes(9);
        x.lorry(1);
        promise = 20;
        is("behind nine of crying nine more", x.asleep(1), 18);
        x.carry(1, 1);
        is("0 by himself", x.asleep(0), 18);
        promise = 21;
        is("0 by himself", x.allAsleep(), 18);
        // With the song's CALM of 2, less is wanted: he sleeps by a minute in which CALM stays as it is.
        x = Due.roomOf("k1,2;s3,0,0;");
        x.hand(0, 1);
        x.minutes(1);
        x.hand(0, 0);
        is("never, by 3", x.allAsleep(), NONE);
        x.need(0, 2);
        is("by 2", x.allAsleep(), 1);
        promise = 20;
        is("by 2", x.asleep(0), 1);
    }

    private static void dinner() {
        promise = 22;
        AsleepCots x = threeWoken();
        is("4", x.dinner(4), 0);
        is("5", x.dinner(5), 1);
        is("60", x.dinner(60), 56);
        is("BAD 0", x.dinner(0), BAD);
        is("BAD 61", x.dinner(61), BAD);
        is("nothing changes", x.count(2), 3);
        is("1, all asleep", threeAsleep().dinner(1), 1);
        x.carry(0, 1);
        x.carry(1, 1);
        is("of those who are in", x.dinner(3), 3);
        x = Due.roomOf("k0,9;p1,0,9;p1,1,9;");
        x.minutes(1);
        x.lorry(1);
        is("one cries, wakes the other, who is behind by one", x.stand(1) * 100 + x.allAsleep(), 111);
        is("behind 11 and 12", x.dinner(12), 2);
    }

    private static void plannedHands() {
        promise = 23;
        AsleepCots x = threeWoken();
        is("3: how many", x.hands(3, 0), 2);
        is("3: which", x.hands(3, 1), 1);
        is("4: how many", x.hands(4, 0), 3);
        is("4: which, the least", x.hands(4, 1), 1);
        is("5: how many", x.hands(5, 0), 3);
        is("5: fewest", x.hands(5, 1), 0);
        is("30", x.hands(30, 1), 0);
        is("BAD 0", x.hands(0, 0), BAD);
        is("BAD 31", x.hands(31, 0), BAD);
        is("BAD what", x.hands(1, 2), BAD);
        is("BAD what below", x.hands(1, -1), BAD);
        x.hand(2, 1);
        is("and on no others: the one that lies is moved", x.hands(4, 1), 1);
        is("nothing changes", x.stand(4), 4);
        x = Due.roomOf("k2,1;s2,0,0;s2,0,0;s2,0,0;");
        is("two songs", x.hands(1, 0) * 10 + x.hands(1, 1), 23);
        x = Due.roomOf("k3,1;s2,0,0;s2,0,0;p2,0,0;s2,0,0;");
        is("fewest behind 2", x.hands(2, 0) * 100 + x.hands(2, 1), 411);
        x = Due.roomOf("k0,1;s2,0,0;p1,0,0;");
        is("no women", x.hands(2, 0) * 10 + x.hands(2, 1), 10);
        x = Due.roomOf("k1,1;p1,0,0;s1,0,0;");
        x.minutes(1);
        x.carry(0, 1);
        is("who is OUT and SLEEPS is one who SLEEPS", x.hands(1, 0) * 10 + x.hands(1, 1), 22);
        x = Due.roomOf("k3,1;s2,0,0;s2,0,0;s2,0,0;");
        is("a hand for each", x.hands(1, 0) * 10 + x.hands(1, 1), 37);
    }

    private static void plannedOuts() {
        promise = 24;
        AsleepCots x = threeWoken();
        is("1: how many", x.outs(1, 0), 2);
        is("1: which", x.outs(1, 1), 3);
        is("4: how many", x.outs(4, 0), 1);
        is("4: the least", x.outs(4, 1), 1);
        is("5: none", x.outs(5, 0) * 10 + x.outs(5, 1), 0);
        is("30", x.outs(30, 1), 0);
        is("BAD 0", x.outs(0, 0), BAD);
        is("BAD 31", x.outs(31, 0), BAD);
        is("BAD what", x.outs(1, 2), BAD);
        is("BAD what below", x.outs(1, -1), BAD);
        x.carry(0, 1);
        is("more than are", x.outs(1, 0) * 10 + x.outs(1, 1), 12);
        is("nothing changes", x.stand(3), 1);
        x = Due.roomOf("k0,1;s1,0,0;s1,0,0;p1,0,0;");
        is("fewest of all", x.outs(1, 0) * 10 + x.outs(1, 1), 23);
        x = Due.roomOf("k0,1;s1,0,0;s1,0,0;");
        is("all", x.outs(30, 0) * 10 + x.outs(30, 1), 23);
    }

    private static void plannedChange() {
        promise = 25;
        AsleepCots x = threeWoken();
        is("which", x.best(1, 0), 2);
        is("how many", x.best(1, 1), 1);
        is("BAD 0", x.best(0, 0), BAD);
        is("BAD 31", x.best(31, 0), BAD);
        is("BAD what", x.best(1, 2), BAD);
        is("BAD what below", x.best(1, -1), BAD);
        is("nothing changes", x.child(0, 3), 0);
        is("of several the first", threeAsleep().best(30, 0), 1);
        is("how many, all", threeAsleep().best(30, 1), 3);
        is("one: none", Due.roomOf(WAKEFUL).best(1, 0), NONE);
        is("one: none of them", Due.roomOf(WAKEFUL).best(1, 1), NONE);
        is("one: BAD is first", Due.roomOf(WAKEFUL).best(31, 1), BAD);
        // Child 1 cries beside both others; only in the place of child 2 is he far enough from child 0.
        x = Due.roomOf("k0,5;p1,2,0;p1,1,3;p1,9,0;");
        x.minutes(1);
        x.lorry(2);
        x.need(1, 9);
        is("child 0 bears 2, 3 less 1", x.best(1, 0) * 10 + x.best(1, 1), 12);
        x = Due.roomOf("k0,5;p1,1,0;p1,0,3;p1,9,0;");
        x.minutes(1);
        x.lorry(1);
        is("1 and 2", x.best(1, 0) * 10 + x.best(1, 1), 122);
        x = Due.roomOf("k0,1;s1,0,0;s1,0,0;");
        is("two: the one pair there is", x.best(1, 0) * 10 + x.best(1, 1), 10);
    }

    private static void silence() {
        promise = 26;
        AsleepCots x = threeAsleep();
        is("2", x.silence(), 2);
        x.lorry(3);
        is("4", x.silence(), 4);
        x.carry(2, 1);
        is("nobody sleeps in a cot", x.silence(), 99);
        x = Due.roomOf("k0,1;d1,9,0;");
        is("nobody sleeps", x.silence(), 99);
        x.minutes(1);
        is("a deep one", x.silence(), 18);
        is("so it is", x.lorry(18) * 10 + x.lorry(19), 1);
        x = Due.roomOf("k0,1;p1,0,0;");
        x.minutes(1);
        is("0", x.silence(), 0);
    }

    private static void wakes() {
        promise = 27;
        AsleepCots x = threeAsleep();
        is("0", x.wakes(0), 2);
        is("1", x.wakes(1), 0);
        is("2", x.wakes(2), 2);
        is("BAD", x.wakes(3), BAD);
        is("BAD below", x.wakes(-1), BAD);
        is("nothing changes", x.stand(2), 7);
        x.carry(1, 1);
        is("STATE", x.wakes(1), STATE);
        is("not who is OUT", x.wakes(0), 0);
        x = Due.roomOf("k0,1;p9,9,9;p1,0,0;p2,0,0;");
        is("who would fall asleep, too", x.wakes(0), 2);
        x.minutes(1);
        is("both", x.wakes(0), 6);
        x = threeWoken();
        is("who cries wakes no more than he does", x.wakes(0), 0);
        // The still one, were he to cry, is heard as others are; he himself is not told.
        x = Due.roomOf("k0,1;t1,9,5;p1,3,0;p1,3,0;");
        x.minutes(1);
        is("a still one", x.wakes(0), 2);
        x = Due.roomOf("k0,1;p1,0,0;p1,0,1;");
        x.minutes(1);
        is("himself not", x.wakes(0), 0);
    }

    private static void loudest() {
        promise = 28;
        AsleepCots x = threeAsleep();
        is("silence: the first", x.loudest(), 0);
        x.lorry(3);
        is("5 at 1", x.loudest(), 1);
        x.change(1, 2);
        is("5 at 2", x.loudest(), 2);
        x.carry(2, 1);
        is("at his COT, though he is OUT", x.loudest(), 2);
        x.carry(0, 1);
        is("who is OUT is not heard", x.loudest(), 0);
        x = Due.roomOf("k0,1;p1,1,0;p1,0,5;p1,1,0;");
        x.minutes(1);
        x.lorry(1);
        is("4 at 0 and 2: the first", x.loudest(), 0);
    }

    private static void told(AsleepCots x, int row, int... items) {
        x.row(row, 0, items.length);
        for (int i = 0; i < items.length; i++) {
            x.set(row, i, items[i]);
        }
    }

    private static void who() {
        promise = 29;
        AsleepCots x = threeWoken();
        told(x, 0, 9, 4, 4, 4, 5, 7, 7);
        is("KINDS of 0, as it is", x.who(0, 0, 0, 1, 6), 2 | 16 | 32);
        is("NEEDS of 0", x.who(0, 1, 0, 1, 6), 2);
        is("NEEDS of 0, less told", x.who(0, 1, 0, 1, 3), 1022);
        is("HOLDS of 0", x.who(0, 2, 0, 1, 6), 1023);
        is("VOICES of 0: 4 at 1 more than 2, 6 at 2 no more than 4", x.who(0, 3, 0, 1, 6), 0x70);
        is("HOLDS of 2: 4 and more", x.who(2, 2, 0, 1, 6), 0x3f0);
        is("KINDS of 2", x.who(2, 0, 0, 1, 6), 62);
        is("from another place", x.who(0, 1, 0, 0, 1), 0);
        is("BAD child", x.who(3, 0, 0, 0, 1), BAD);
        is("BAD child below", x.who(-1, 0, 0, 0, 1), BAD);
        is("BAD which", x.who(0, 4, 0, 0, 1), BAD);
        is("BAD which below", x.who(0, -1, 0, 0, 1), BAD);
        is("BAD row", x.who(0, 0, 8, 0, 1), BAD);
        is("BAD row below", x.who(0, 0, -1, 0, 1), BAD);
        is("BAD n 0", x.who(0, 0, 0, 0, 0), BAD);
        is("BAD n 13", x.who(0, 0, 0, 0, 13), BAD);
        is("NULL", x.who(0, 0, 1, -1, 1), NULL);
        is("PLACE below", x.who(0, 0, 0, -1, 1), PLACE);
        is("PLACE beyond", x.who(0, 0, 0, 2, 6), PLACE);
        is("PLACE far", x.who(0, 0, 0, HIGH, 12), PLACE);
        is("nothing changes", x.count(2) * 10 + x.kind(0), 31);
        x.row(2, 2, 12);
        is("12, none fits", x.who(0, 0, 2, 0, 12), 0);
        x.set(2, 0, 4 | 256);
        is("a bit of nobody", x.who(0, 0, 2, 0, 1), 0);
        x.set(2, 0, 4);
        is("ints", x.who(0, 1, 2, 0, 1), 1022);
        AsleepCots song = Due.roomOf("k1,1;s1,0,0;");
        told(song, 0, 0);
        is("the song alone", song.who(0, 0, 0, 0, 1), 8);
        is("no NEED", song.who(0, 1, 0, 0, 1), 1022);
        song.set(0, 0, 1);
        is("all others", song.who(0, 0, 0, 0, 1), 54);
    }

    private static void held() {
        promise = 30;
        AsleepCots x = threeWoken();
        told(x, 0, 4, 4, 5, 7);
        is("on 0", x.held(0, 0, 4), 1);
        is("as it is, and on 1, 2", x.held(0, 0, 2), 135);
        told(x, 1, 4, 4, 4, 7);
        is("on 1", x.held(1, 0, 4), 2);
        is("as it is, and on 1, 2, not on 0", x.held(1, 0, 3), 134);
        x.hand(2, 1);
        is("whatever there is of WOMEN", x.held(0, 0, 4), 1);
        is("nothing changes", x.stand(4), 4);
        x.hand(2, 0);
        x.hand(0, 1);
        is("it lies: as it is; one more on others", x.held(0, 0, 4), 128 + 1 + 2 * 0 + 4);
        is("BAD row", x.held(8, 0, 1), BAD);
        is("BAD row below", x.held(-1, 0, 1), BAD);
        is("BAD n 0", x.held(0, 0, 0), BAD);
        is("BAD n 13", x.held(0, 0, 13), BAD);
        is("NULL", x.held(2, 0, 1), NULL);
        is("PLACE", x.held(0, 1, 4), PLACE);
        is("PLACE below", x.held(0, -1, 1), PLACE);
        is("PLACE far", x.held(0, HIGH, 12), PLACE);
        x.row(3, 0, 40);
        is("12 of 40 at the end", x.held(3, 28, 12), 0);
        is("PLACE at 40", x.held(3, 29, 12), PLACE);
    }

    private static void fraction(AsleepCots x, int noise, int n, int p, long above, long below) {
        is("lorries " + noise + " " + n + " " + p, x.lorries(noise, n, p, 0), above);
        is("lorries below " + noise + " " + n + " " + p, x.lorries(noise, n, p, 1), below);
    }

    private static void lorries() {
        promise = 31;
        AsleepCots x = threeAsleep();
        fraction(x, 3, 0, 10, 1, 1);
        fraction(x, 3, 1, 3, 7, 10);
        fraction(x, 3, 2, 3, 49, 100);
        fraction(x, 3, 8, 0, 1, 1);
        fraction(x, 3, 1, 10, 0, 1);
        fraction(x, 3, 2, 5, 1, 4);
        fraction(x, 2, 8, 7, 1, 1);
        fraction(x, 0, 1, 10, 1, 1);
        fraction(x, 3, 1, 1, 9, 10);
        fraction(x, 99, 4, 9, 1, 10000);
        is("BAD noise", x.lorries(100, 1, 1, 0), BAD);
        is("BAD noise below", x.lorries(-1, 1, 1, 0), BAD);
        is("BAD n", x.lorries(0, 9, 1, 0), BAD);
        is("BAD n below", x.lorries(0, -1, 1, 0), BAD);
        is("BAD p", x.lorries(0, 1, 11, 0), BAD);
        is("BAD p below", x.lorries(0, 1, -1, 0), BAD);
        is("BAD what", x.lorries(0, 1, 1, 2), BAD);
        is("BAD what below", x.lorries(0, 1, 1, -1), BAD);
        is("nothing changes", x.count(2) * 10 + x.stand(2), 37);

        // Woken, he cries for the minute and lies; behind the next he sleeps whatever comes.
        x = Due.roomOf("k0,1;p1,0,0;");
        fraction(x, 1, 0, 4, 0, 1);
        fraction(x, 1, 1, 4, 1, 1);
        fraction(x, 1, 2, 4, 3, 5);
        fraction(x, 1, 3, 4, 19, 25);
        fraction(x, 1, 8, 3, 7691803, 10000000);
        x.carry(0, 1);
        fraction(x, 1, 8, 3, 1, 1);
    }

    private static void drawn() {
        promise = 32;
        // From 1: 16807 and 282475249 have seven, then 1622650073 has neither, then 984943658.
        AsleepCots x = Due.roomOf("k0,1;p2,0,0;p1,0,0;");
        is("0", x.drawn(0, 1, 0), 0);
        is("1: 16807 leaves 1 of two: child 1 is OUT", x.drawn(1, 1, 0), 0);
        is("2: child 1 again", x.drawn(2, 1, 0), 1);
        is("2: nobody cried", x.drawn(2, 1, 1), 0);
        // From 6: 100842 has six and seven: a lorry as loud as 2, and child 0 is carried OUT.
        x = Due.roomOf("k0,3;p1,2,0;p1,1,0;");
        x.minutes(1);
        is("a lorry of 2 wakes child 1", x.drawn(1, 6, 0) * 10 + x.drawn(1, 6, 1), 11);
        x = Due.roomOf("k0,3;p1,1,0;p1,2,0;");
        x.minutes(1);
        is("the lorry is first, then he is OUT", x.drawn(1, 6, 0) * 10 + x.drawn(1, 6, 1), 11);
        // From 1, of three: 16807 carries child 1 OUT, 282475249 child 1, too; the others sleep, then.
        x = Due.roomOf("k0,1;p2,0,0;p1,0,0;p2,0,0;");
        is("two of three", x.drawn(2, 1, 0), 2);
        x = Due.roomOf("k0,1;p1,0,0;");
        is("the only one is OUT", x.drawn(1, 1, 0), 0);
        x = Due.roomOf("k0,1;p1,0,0;p1,0,0;");
        x.carry(0, 1);
        is("who is OUT already stays so", x.drawn(2, 1, 0), 0);
        // From 6, two minutes: 100842 carries child 0 OUT; 1694851494 has six: 14, and seven: child 0.
        x = Due.roomOf("k0,1;p1,9,0;p1,9,0;");
        x.minutes(1);
        is("who is OUT is not woken by 14, the other is, and cries for no minute behind", x.drawn(2, 6, 0), 1);
        x = Due.roomOf("k0,3;p1,1,0;p1,2,0;");
        x.minutes(1);
        is("BAD n", x.drawn(61, 1, 0), BAD);
        is("BAD n below", x.drawn(-1, 1, 0), BAD);
        is("BAD seed 0", x.drawn(1, 0, 0), BAD);
        is("BAD seed", x.drawn(1, 1000000, 0), BAD);
        is("BAD what", x.drawn(1, 1, 2), BAD);
        is("BAD what below", x.drawn(1, 1, -1), BAD);
        is("nothing changes", x.count(2) * 10 + x.stand(3), 10);
    }

    private static void images() {
        promise = 33;
        AsleepCots x = threeWoken();
        is("BAD", x.image(2), BAD);
        is("BAD below", x.image(-1), BAD);
        is("kept", x.image(1), 1);
        is("no ACT", x.count(6), 4);
        x.hand(1, 1);
        x.carry(2, 1);
        x.change(0, 1);
        x.need(0, 8);
        x.minutes(2);
        promise = 34;
        is("BAD", x.restore(2), BAD);
        is("BAD below", x.restore(-1), BAD);
        is("STATE", x.restore(0), STATE);
        x.image(0);
        is("as kept", x.restore(1), 1);
        is("no ACT", x.undo(), STATE);
        is("MINUTE", x.count(2), 3);
        is("hands, OUT", x.stand(4) + x.stand(3), 0);
        is("COT, NEED", x.child(0, 3) * 10 + x.child(0, 0), 1);
        is("CRIES", x.child(0, 5), 3);
        is("the other", x.restore(0), 1);
        is("MINUTE", x.count(2), 5);
        is("hands, OUT", x.stand(4) * 10 + x.stand(3), 24);
        Due.feed(x, "k3,9;d5,5,5;").room();
        is("from another ROOM", x.restore(1), 1);
        is("CHILDREN", x.count(1), 3);
        is("KINDS", x.kind(0) * 100 + x.kind(1) * 10 + x.kind(2), 152);
        is("WOMEN", x.hand(0, 1) + (long) x.hand(1, 1), 1L + FULL);
        is("as often as asked", x.restore(1) * 10 + x.stand(4), 10);
        x.minutes(5);
        promise = 33;
        is("anew", x.image(1), 1);
        x.minutes(1);
        x.restore(1);
        is("in place", x.count(2), 8);
    }

    private static void kinds() {
        promise = 35;
        AsleepCots x = Due.roomOf("k0,1;p1,1,1;l1,1,1;s1,1,1;d1,1,1;t1,1,1;");
        for (int one = 0; one < 5; one++) {
            is("kind(" + one + ")", x.kind(one), one + 1);
        }
        is("BAD", x.kind(5), BAD);
        is("BAD below", x.kind(-1), BAD);
        promise = 36;
        String[] such = {"110000", "111000", "110100", "100010", "100011"};
        for (int one = 0; one < 5; one++) {
            for (int kind = 0; kind <= 5; kind++) {
                boolean is = such[one].charAt(kind) == '1';
                is("as(" + one + ", " + kind + ")", x.as(one, kind), is ? one : KIND);
                is("status", x.status(), is ? 0 : 3);
            }
        }
        is("BAD kind", x.as(0, 6), BAD);
        is("BAD kind below", x.as(0, -1), BAD);
        is("BAD one", x.as(5, 0), BAD);
        is("BAD one below", x.as(-1, 0), BAD);
    }

    private static void asked(AsleepCots x, int one, int what, int want, int... trace) {
        promise = 37;
        is("ask(" + one + ", " + what + ")", x.ask(one, what), want);
        promise = 38;
        for (int i = 0; i < trace.length; i++) {
            is("trace(" + i + ") of ask(" + one + ", " + what + ")", x.trace(i), trace[i]);
        }
        is("end of trace of ask(" + one + ", " + what + ")", x.trace(trace.length), NONE);
    }

    private static void asks() {
        AsleepCots x = Due.roomOf("k0,9;p2,9,0;p3,0,9;l4,9,0;s5,9,0;d6,9,0;t7,9,0;");
        x.minutes(7);
        x.lorry(1);
        // Child 1 cries: 8 at 0, 8 at 2, 7 at 3.
        asked(x, 0, 0, 2 + 0 + 8, 11, 10, 21, 20);
        asked(x, 0, 1, 0 + 8, 21, 20);
        asked(x, 1, 0, 3 + 1, 11, 10, 21, 20);
        asked(x, 2, 0, -(4 + 2 * (2 + 8)), 12, 11, 10, 24, 21, 20);
        asked(x, 2, 1, 2 * (2 + 8), 24, 21, 20);
        asked(x, 3, 0, 5 + 3 + 7 - 1000, 11, 10, 22, 21, 20);
        asked(x, 3, 1, 3 + 7 - 1000, 22, 21, 20);
        asked(x, 4, 0, 6 - 100, 13, 10);
        asked(x, 4, 1, 4 - (6 - 100), 23, 20, 13, 10);
        asked(x, 5, 0, 2 * (7 - 100), 14, 13, 10);
        asked(x, 5, 1, 5 - 2 * (7 - 100), 23, 20, 14, 13, 10);
        promise = 37;
        is("BAD one", x.ask(6, 0), BAD);
        is("BAD one below", x.ask(-1, 0), BAD);
        is("BAD what", x.ask(0, 2), BAD);
        is("BAD what below", x.ask(0, -1), BAD);
        promise = 38;
        is("refused, THE TRACE stays", x.trace(4), 10);
        is("NONE below", x.trace(-1), NONE);
        is("NONE beyond", x.trace(5), NONE);
        is("NONE at 16", x.trace(16), NONE);
        is("NONE far", x.trace(HIGH), NONE);
        is("NONE far below", x.trace(LOW), NONE);
    }

    private static void counts() {
        promise = 39;
        AsleepCots x = threeWoken();
        x.row(0, 0, 0);
        x.row(5, 1, 3);
        x.carry(0, 1);
        x.carry(1, 1);
        x.feed('k');
        int[] want = {2, 3, 3, 1, 1, 2, 6, 1};
        for (int what = 0; what < want.length; what++) {
            is("count(" + what + ")", x.count(what), want[what]);
        }
        is("BAD", x.count(8), BAD);
        is("BAD below", x.count(-1), BAD);
        x.carry(2, 1);
        is("SLEEP, OUT too", x.count(3), 1);
    }

    private static void status() {
        promise = 40;
        AsleepCots x = Due.roomOf(WAKEFUL);
        x.row(0, 0, 2);
        is("none", x.status(), 0);
        x.set(1, 0, 0);
        is("NULL", x.status(), 1);
        x.set(8, 0, 0);
        is("BAD counts not", x.status(), 1);
        x.set(0, 2, 0);
        is("PLACE", x.status(), 2);
        x.count(0);
        x.minutes(1);
        x.hand(0, 0);
        is("calls without a ROW count not", x.status(), 2);
        x.row(1, 1, 2);
        is("row", x.status(), 0);
        x.row(1, 1, -1);
        is("SIZE", x.status(), 4);
        x.set(0, 0, 1);
        is("set", x.status(), 0);
        x.copy(0, 0, 1, 0, 1);
        is("STORE", x.status(), 5);
        x.copy(0, 0, 0, 0, 1);
        is("copy", x.status(), 0);
        x.as(0, 5);
        is("KIND", x.status(), 3);
        x.as(0, 1);
        is("as", x.status(), 0);
        x.drop(2);
        is("drop, NULL", x.status(), 1);
        x.drop(1);
        is("drop", x.status(), 0);
        x.who(0, 0, 0, 9, 1);
        is("who, PLACE", x.status(), 2);
        x.who(0, 0, 0, 0, 1);
        is("who", x.status(), 0);
        x.held(1, 0, 1);
        is("held, NULL", x.status(), 1);
        x.held(0, 0, 13);
        is("held, BAD counts not", x.status(), 1);
        x.held(0, 0, 1);
        is("held", x.status(), 0);
    }
}
