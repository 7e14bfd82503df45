/** An object with something of everything, and all that can be seen of one. */
final class Look {
    private Look() {
    }

    /** Child 0 cries under a hand in cot 1, child 1 lies in cot 0, child 2 sleeps and is out. */
    static AsleepCots rich() {
        AsleepCots x = Due.fed("k4");
        x.room();
        Due.feed(x, Edges.THREE).room();
        x.minutes(3);
        x.image(0);
        x.lorry(3);
        x.hand(0, 1);
        x.carry(2, 1);
        x.change(0, 1);
        Edges.told(x, 0, 0, 4, 4, 5);
        Edges.told(x, 1, 1, 4, 4);
        Edges.told(x, 2, 0, 9, 9);
        x.ask(2, 0);
        x.feed('k');
        return x;
    }

    /** What is undone, restored and dropped to be seen comes last. */
    static String at(AsleepCots x) {
        StringBuilder b = new StringBuilder("count");
        for (int what = 0; what <= 7; what++) {
            b.append(' ').append(x.count(what));
        }
        b.append(" fault ").append(x.fault()).append(" trace");
        for (int i = 0; i < 7; i++) {
            b.append(' ').append(x.trace(i));
        }
        b.append(" rows ").append(x.held(0, 0, 3)).append(' ').append(x.held(1, 0, 2)).append(' ').append(x.held(2, 0, 2));
        room(x, b);
        for (int i = 0; i < 3; i++) {
            b.append(" undo ").append(x.undo());
            room(x, b);
        }
        for (int k = 0; k <= 1; k++) {
            b.append(" restore ").append(x.restore(k));
            room(x, b);
        }
        b.append(" drop");
        for (int row = 0; row <= 7; row++) {
            b.append(' ').append(x.drop(row));
        }
        return b.toString();
    }

    private static void room(AsleepCots x, StringBuilder b) {
        b.append(" stand");
        for (int what = 0; what <= 4; what++) {
            b.append(' ').append(x.stand(what));
        }
        for (int c = 0; c < x.count(1); c++) {
            b.append(" child");
            for (int what = 0; what <= 7; what++) {
                b.append(' ').append(x.child(c, what));
            }
            b.append(' ').append(x.kind(c));
        }
        b.append(" minute ").append(x.count(2));
    }
}
