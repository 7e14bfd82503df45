/** What the project's tests share: counting the answers that are not as due, and feeding a text. */
final class Due {
    private static final int MOST_PRINTED = 40;
    private final String test;
    private int asDue;
    private int wrong;

    Due(String test) {
        this.test = test;
    }

    void is(String call, long got, long want) {
        if (got == want) {
            asDue++;
            return;
        }
        wrong++;
        if (wrong <= MOST_PRINTED) {
            System.out.println(test + ": " + call + " answered " + got + ", due is " + want);
        }
    }

    void holds(String what, boolean so) {
        is(what, so ? 1 : 0, 1);
    }

    int wrong() {
        return wrong;
    }

    void end() {
        System.out.println(test + ": " + asDue + " answers as due, " + wrong + " not");
        if (wrong != 0 || asDue == 0) {
            System.exit(1);
        }
    }

    static AsleepCots fed(String text) {
        return feed(new AsleepCots(), text);
    }

    static AsleepCots feed(AsleepCots x, String text) {
        for (int i = 0; i < text.length(); i++) {
            x.feed(text.charAt(i));
        }
        return x;
    }

    static AsleepCots roomOf(String text) {
        AsleepCots x = fed(text);
        if (x.room() < 0) {
            throw new IllegalStateException("no room: " + text);
        }
        return x;
    }
}
