/** The edges of rows: promises 2 to 5. */
final class RowsEdges {
    private static final int BAD = Edges.BAD, NULL = Edges.NULL, PLACE = Edges.PLACE, SIZE = Edges.SIZE;
    private static final int STORE = Edges.STORE, LOW = Edges.LOW, HIGH = Edges.HIGH;
    private final Edges e;

    RowsEdges(Edges e) {
        this.e = e;
    }

    void all() {
        rowNumbers();
        lanes();
        items();
        madeAnew();
        rowRefused();
        lowestBits();
        setRefused();
        copied();
        copiedOverItself();
        copyRefused();
        copyPlaces();
        dropped();
        dropRefused();
        changesNothing();
    }

    private void rowNumbers() {
        e.edge(2, "ROWS 0 .. 7");
        e.range("row", 0, 7, row -> Edges.none().row(row, 0, 1));
        AsleepCots x = Edges.none();
        for (int row = 0; row <= 7; row++) {
            e.is("row " + row, x.row(row, 2, row), row);
        }
        e.is("eight of them", x.count(0), 8);
        e.edge(2, "are missing (at first)");
        x = Edges.none();
        for (int row = 0; row <= 7; row++) {
            e.is("set of row " + row, x.set(row, 0, 0), NULL);
        }
    }

    private void lanes() {
        e.edge(2, "have a LANE (0 bytes, 1 shorts, 2 ints)");
        e.range("lane", 0, 2, lane -> Edges.none().row(0, lane, 1));
        int[] of128 = {-128, 128, 128};
        int[] of32768 = {0, -32768, 32768};
        for (int lane = 0; lane <= 2; lane++) {
            AsleepCots x = Edges.none();
            x.row(0, lane, 1);
            e.is("128 in lane " + lane, x.set(0, 0, 128), of128[lane]);
            e.is("32768 in lane " + lane, x.set(0, 0, 32768), of32768[lane]);
        }
    }

    private void items() {
        e.edge(2, "0 to 40 ITEMS");
        for (int lane = 0; lane <= 2; lane++) {
            AsleepCots x = Edges.none();
            e.is("none", x.row(0, lane, 0), 0);
            e.is("a row of none is there", x.count(0), 1);
            e.is("it has no place", x.set(0, 0, 0), PLACE);
            e.is("40", x.row(0, lane, 40), 40);
            e.is("the last of 40", x.set(0, 39, 1), 1);
            e.is("none behind it", x.set(0, 40, 1), PLACE);
        }
        e.edge(2, "n above 40");
        AsleepCots x = Edges.none();
        e.is("41", x.row(0, 0, 41), BAD);
        e.is("far above", x.row(0, 0, HIGH), BAD);
        e.is("no row is made", x.count(0), 0);
        e.edge(2, "0 at first");
        for (int lane = 0; lane <= 2; lane++) {
            x = Edges.room(Edges.WAKEFUL);
            x.row(6, lane, 40);
            for (int i = 0; i < 40; i += 8) {
                e.is("eight items from " + i, x.held(6, i, 8), 128);
            }
            x.set(6, 39, 1);
            e.is("no longer so", x.held(6, 32, 8), 0);
        }
    }

    private void madeAnew() {
        e.edge(2, "in place of what is there");
        int[][] anew = {{0, 4}, {2, 4}, {0, 2}, {0, 9}, {1, 40}};
        for (int[] made : anew) {
            AsleepCots x = Edges.told(Edges.room(Edges.WAKEFUL), 3, 0, 7, 7, 7, 7);
            e.is("4 items of 7", x.held(3, 0, 1), 0);
            e.is("anew", x.row(3, made[0], made[1]), made[1]);
            e.is("0 again", x.held(3, 0, 2), 129);
            e.is("its last", x.set(3, made[1] - 1, 0), 0);
            e.is("behind it", x.set(3, made[1], 0), PLACE);
            e.is("one row yet", x.count(0), 1);
        }
        AsleepCots x = Edges.told(Edges.room(Edges.WAKEFUL), 3, 2, 7);
        x.row(3, 0, 1);
        e.is("of the new lane", x.set(3, 0, 128), -128);
        x.drop(3);
        x.row(3, 0, 1);
        e.is("0 again behind a drop", x.held(3, 0, 1), 129);
    }

    private void rowRefused() {
        e.edge(2, "BAD: ROW, LANE, n above 40");
        AsleepCots x = Edges.none();
        e.is("row -1", x.row(-1, 0, 1), BAD);
        e.is("row 8", x.row(8, 0, 1), BAD);
        e.is("lane -1", x.row(0, -1, 1), BAD);
        e.is("lane 3", x.row(0, 3, 1), BAD);
        e.edge(2, "SIZE (fewer than none)");
        e.is("-1", x.row(0, 0, -1), SIZE);
        e.is("far below", x.row(0, 0, LOW), SIZE);
        e.is("none is not fewer", x.row(0, 0, 0), 0);
        e.edge(2, "SIZE");
        e.is("row is BAD ahead of it", x.row(8, 0, -1), BAD);
        e.is("lane is BAD ahead of it", x.row(0, 3, -1), BAD);
    }

    private void setAll(AsleepCots x, int lane, int... vThenIs) {
        x.row(lane, lane, 1);
        for (int k = 0; k < vThenIs.length; k += 2) {
            e.is("lane " + lane + ", " + vThenIs[k], x.set(lane, 0, vThenIs[k]), vThenIs[k + 1]);
        }
    }

    private void lowestBits() {
        e.edge(3, "its lowest bits, as many as the LANE has: what it is then");
        AsleepCots x = Edges.room(Edges.WAKEFUL);
        setAll(x, 0, 127, 127, 128, -128, 255, -1, 256, 0, -128, -128, -129, 127, LOW, 0, HIGH, -1, 65536, 0);
        setAll(x, 1, 32767, 32767, 32768, -32768, 65535, -1, 65536, 0, -32768, -32768, -32769, 32767, LOW, 0, HIGH, -1);
        setAll(x, 2, HIGH, HIGH, LOW, LOW, -1, -1, 65536, 65536, 256, 256, 0, 0);
        e.is("256 is kept as 0 in a byte", x.set(0, 0, 256) * 1000 + x.held(0, 0, 1), 129);
        e.is("65536 is kept as 0 in a short", x.set(1, 0, 65536) * 1000 + x.held(1, 0, 1), 129);
        e.is("256 is none in a short", x.set(1, 0, 256) * 1000 + x.held(1, 0, 1), 256000);
        e.is("65536 is none in an int", x.set(2, 0, 65536) - 65536 + x.held(2, 0, 1), 0);
        e.edge(3, "ITEM i becomes v");
        x.row(3, 0, 3);
        x.set(3, 1, 5);
        e.is("the one ahead of it stays", x.held(3, 0, 1), 129);
        e.is("it itself", x.held(3, 1, 1), 0);
        e.is("the one behind it stays", x.held(3, 2, 1), 129);
    }

    private void setRefused() {
        e.edge(3, "BAD: ROW");
        e.range("row", 0, 7, row -> Edges.none().set(row, 0, 0));
        e.is("ahead of PLACE", Edges.none().set(8, -1, 0), BAD);
        e.edge(3, "NULL");
        AsleepCots x = Edges.none();
        e.is("missing", x.set(0, 0, 0), NULL);
        e.is("ahead of PLACE", x.set(0, -1, 0), NULL);
        e.edge(3, "PLACE (no such place of a ROW)");
        x.row(0, 0, 3);
        e.is("the first", x.set(0, 0, 1), 1);
        e.is("the last", x.set(0, 2, 1), 1);
        for (int i : new int[] {-1, 3, 40, LOW, HIGH}) {
            e.is("place " + i, x.set(0, i, 1), PLACE);
        }
        e.edge(3, "PLACE");
        x.row(0, 2, 0);
        e.is("of none", x.set(0, 0, 1), PLACE);
    }

    private void copied() {
        e.edge(4, "n ITEMS of a from i on come to b from j on");
        AsleepCots x = Edges.room(Edges.WAKEFUL);
        x.row(0, 0, 40);
        x.row(1, 0, 40);
        x.set(0, 39, 1);
        x.set(0, 0, 1);
        e.is("all 40", x.copy(0, 0, 1, 0, 40), 40);
        e.is("the first came", x.held(1, 0, 1), 0);
        e.is("those between", x.held(1, 1, 4), 129);
        e.is("the last came", x.held(1, 39, 1), 0);
        x.row(1, 0, 40);
        e.is("none", x.copy(0, 0, 1, 0, 0), 0);
        e.is("none came", x.held(1, 0, 1), 129);
        e.is("none at both ends", x.copy(0, 40, 1, 40, 0), 0);
        e.is("one, to the last place", x.copy(0, 0, 1, 39, 1), 1);
        e.is("it came there", x.held(1, 39, 1), 0);
        e.is("not ahead of it", x.held(1, 38, 1), 129);
        x.row(2, 0, 0);
        e.is("none of none to none", x.copy(2, 0, 2, 0, 0), 0);
    }

    private void copiedOverItself() {
        e.edge(4, "as they were ahead");
        for (int lane = 0; lane <= 2; lane++) {
            AsleepCots x = Edges.told(Edges.room(Edges.WAKEFUL), 0, lane, 1, 0, 0, 0);
            e.is("upwards", x.copy(0, 0, 0, 1, 3), 3);
            e.is("1 1 0 0", x.held(0, 1, 1) * 1000 + x.held(0, 2, 2), 129);
            x = Edges.told(Edges.room(Edges.WAKEFUL), 0, lane, 0, 0, 0, 1);
            e.is("downwards", x.copy(0, 1, 0, 0, 3), 3);
            e.is("0 0 1 1", x.held(0, 2, 1) * 1000 + x.held(0, 0, 2), 129);
            e.is("onto itself", x.copy(0, 0, 0, 0, 4), 4);
            e.is("0 0 1 1 yet", x.held(0, 2, 1) * 1000 + x.held(0, 0, 2), 129);
        }
    }

    private void copyRefused() {
        e.edge(4, "BAD: ROWS");
        e.range("row a", 0, 7, a -> Edges.none().copy(a, 0, 0, 0, 1));
        e.range("row b", 0, 7, b -> Edges.none().copy(0, 0, b, 0, 1));
        e.edge(4, "NULL");
        AsleepCots x = Edges.none();
        x.row(0, 0, 2);
        e.is("a is missing", x.copy(1, 0, 0, 0, 1), NULL);
        e.is("b is missing", x.copy(0, 0, 1, 0, 1), NULL);
        e.is("both, the same", x.copy(1, 0, 1, 0, 0), NULL);
        e.is("ahead of PLACE", x.copy(1, -1, 0, -1, -1), NULL);
        e.edge(4, "STORE (ROWS of two LANES)");
        for (int lane = 0; lane <= 2; lane++) {
            x.row(lane, lane, 2);
        }
        for (int a = 0; a <= 2; a++) {
            for (int b = 0; b <= 2; b++) {
                e.is("lane " + a + " to lane " + b, x.copy(a, 0, b, 0, 2), a == b ? 2 : STORE);
            }
        }
        e.edge(4, "STORE");
        e.is("even of none", x.copy(0, 0, 1, 0, 0), STORE);
        e.edge(4, "of several the first in time");
        e.is("STORE ahead of PLACE", x.copy(0, -1, 1, 9, -1), STORE);
        x.drop(1);
        e.is("NULL, now that the other is missing", x.copy(0, -1, 1, 9, -1), NULL);
    }

    private void copyPlaces() {
        e.edge(4, "PLACE (i, j, n below 0, or beyond an end)");
        AsleepCots x = Edges.room(Edges.WAKEFUL);
        x.row(0, 0, 6);
        x.row(1, 0, 4);
        x.set(0, 0, 1);
        e.is("i below 0", x.copy(0, -1, 1, 0, 1), PLACE);
        e.is("j below 0", x.copy(0, 0, 1, -1, 1), PLACE);
        e.is("n below 0", x.copy(0, 0, 1, 0, -1), PLACE);
        e.is("n below 0 where places are left", x.copy(0, 3, 1, 3, -2), PLACE);
        e.is("to the end of a", x.copy(0, 5, 1, 0, 1), 1);
        e.is("beyond the end of a", x.copy(0, 5, 1, 0, 2), PLACE);
        e.is("to the end of b", x.copy(0, 1, 1, 0, 4), 4);
        e.is("beyond the end of b", x.copy(0, 1, 1, 0, 5), PLACE);
        e.is("beyond the end of b by j", x.copy(0, 1, 1, 4, 1), PLACE);
        e.is("none at the end of a", x.copy(0, 6, 1, 0, 0), 0);
        e.is("none beyond the end of a", x.copy(0, 7, 1, 0, 0), PLACE);
        e.is("none at the end of b", x.copy(0, 0, 1, 4, 0), 0);
        e.is("none beyond the end of b", x.copy(0, 0, 1, 5, 0), PLACE);
        int[][] far = {{HIGH, 0, 1}, {0, HIGH, 1}, {1, 1, HIGH}, {HIGH, HIGH, HIGH}, {LOW, 0, 1}, {0, LOW, 1},
            {0, 0, LOW}, {LOW, LOW, LOW}, {HIGH, 0, HIGH}, {1, 0, LOW}, {LOW, 0, HIGH}};
        for (int[] f : far) {
            e.is("far: " + f[0] + " " + f[1] + " " + f[2], x.copy(0, f[0], 1, f[1], f[2]), PLACE);
        }
        e.is("what was found brought nothing over", x.held(1, 0, 4), 129);
    }

    private void dropped() {
        e.edge(5, "A ROW is missing from now on");
        AsleepCots x = Edges.told(Edges.room(Edges.WAKEFUL), 7, 0, 0, 0);
        x.row(6, 0, 1);
        x.drop(7);
        e.is("set", x.set(7, 0, 0), NULL);
        e.is("copy from", x.copy(7, 0, 6, 0, 1), NULL);
        e.is("copy to", x.copy(6, 0, 7, 0, 1), NULL);
        e.is("who", x.who(0, 0, 7, 0, 1), NULL);
        e.is("held", x.held(7, 0, 1), NULL);
        e.is("drop", x.drop(7), NULL);
        e.is("the other is there", x.count(0), 1);
        e.edge(5, "how many ITEMS it had");
        x.row(7, 2, 40);
        e.is("40", x.drop(7), 40);
        x.row(7, 2, 0);
        e.is("none", x.drop(7), 0);
        e.is("none had is not missing", x.drop(7), NULL);
    }

    private void dropRefused() {
        e.edge(5, "BAD");
        e.range("row", 0, 7, row -> Edges.none().drop(row));
        e.edge(5, "NULL (a ROW that is missing)");
        for (int row = 0; row <= 7; row++) {
            e.is("row " + row, Edges.none().drop(row), NULL);
        }
        e.edge(5, "NULL");
        AsleepCots x = Edges.none();
        x.row(0, 0, 1);
        e.is("another", x.drop(1) - NULL + x.count(0), 1);
    }

    private void changesNothing() {
        e.refused(2, "row(-1, 0, 1)", BAD, x -> x.row(-1, 0, 1));
        e.refused(2, "row(0, 3, 1)", BAD, x -> x.row(0, 3, 1));
        e.refused(2, "row(0, 0, 41)", BAD, x -> x.row(0, 0, 41));
        e.refused(2, "row(0, 0, -1)", SIZE, x -> x.row(0, 0, -1));
        e.refused(2, "row(5, 0, -1)", SIZE, x -> x.row(5, 0, -1));
        e.refused(3, "set(8, 0, 0)", BAD, x -> x.set(8, 0, 0));
        e.refused(3, "set(5, 0, 0)", NULL, x -> x.set(5, 0, 0));
        e.refused(3, "set(0, 3, 0)", PLACE, x -> x.set(0, 3, 0));
        e.refused(3, "set(0, -1, 0)", PLACE, x -> x.set(0, -1, 0));
        e.refused(4, "copy(0, 0, 8, 0, 1)", BAD, x -> x.copy(0, 0, 8, 0, 1));
        e.refused(4, "copy(2, 0, 5, 0, 1)", NULL, x -> x.copy(2, 0, 5, 0, 1));
        e.refused(4, "copy(2, 0, 1, 0, 1)", STORE, x -> x.copy(2, 0, 1, 0, 1));
        e.refused(4, "copy(2, 0, 0, 2, 2)", PLACE, x -> x.copy(2, 0, 0, 2, 2));
        e.refused(4, "copy(2, 1, 0, 0, 2)", PLACE, x -> x.copy(2, 1, 0, 0, 2));
        e.refused(5, "drop(8)", BAD, x -> x.drop(8));
        e.refused(5, "drop(5)", NULL, x -> x.drop(5));
    }
}
