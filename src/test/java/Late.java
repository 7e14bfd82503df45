/** Two rooms in which sleep comes late: the latest that searches over many rooms have found. */
final class Late {
    static final int ONE = 34, ALL = 43, LATE_ONE = 2;

    private Late() {
    }

    /** Child 2 sleeps first behind so many minutes: the others wake him and one another till then. */
    static AsleepCots one(int left) {
        AsleepCots x = handsOn(Due.roomOf("k3,2;s1,0,6;s3,4,6;d9,0,4;d3,2,3;l3,5,1;s3,3,6;p1,0,6;"), 0, 1, 5);
        x.minutes(9);
        carry(x, 1, 0, 1, 3, 4, 5, 6);
        x.lorry(99);
        carry(x, 0, 0, 1, 3, 4, 5, 6);
        return nearer(x, ONE - left);
    }

    /** All sleep first behind so many minutes. */
    static AsleepCots all(int left) {
        AsleepCots x = handsOn(Due.roomOf("k3,2;p1,2,8;p1,3,5;d6,3,2;d7,4,3;p3,7,2;p4,5,6;d1,0,7;"), 0, 2, 5);
        x.minutes(9);
        carry(x, 1, 0, 1, 3, 4, 5, 6);
        x.lorry(99);
        carry(x, 1, 2);
        x.minutes(1);
        carry(x, 0, 1, 3);
        x.lorry(99);
        carry(x, 0, 0, 2, 4, 5, 6);
        return nearer(x, ALL - left);
    }

    private static AsleepCots handsOn(AsleepCots x, int... children) {
        for (int c : children) {
            x.hand(c, 1);
        }
        return x;
    }

    private static void carry(AsleepCots x, int out, int... children) {
        for (int c : children) {
            x.carry(c, out);
        }
    }

    private static AsleepCots nearer(AsleepCots x, int minutes) {
        for (int m = 0; m < minutes; m++) {
            x.minutes(1);
        }
        return x;
    }
}
