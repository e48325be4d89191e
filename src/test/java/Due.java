import java.util.NoSuchElementException;

/** Answers that are due, for the tests: what differs is printed, and ends the program with 1. */
final class Due {
    interface Call {
        Object make();
    }

    private final String name;
    private int right;
    private int wrong;

    Due(String name) {
        this.name = name;
    }

    void same(String what, Object got, Object due) {
        if (got.equals(due)) {
            right++;
        } else {
            wrong++;
            System.out.println(name + ": " + what + " answered " + got + ", due is " + due);
        }
    }

    /** None of a class above or below it: just this one. */
    private void thrown(String what, Class<?> due, Call call) {
        Class<?> got = Object.class;
        try {
            call.make();
        } catch (RuntimeException exception) {
            got = exception.getClass();
        }
        same(what + " throws", got, due);
    }

    void noSuch(String what, Call call) {
        thrown(what, NoSuchElementException.class, call);
    }

    void badArgument(String what, Call call) {
        thrown(what, IllegalArgumentException.class, call);
    }

    void end() {
        System.out.println(name + ": " + right + " right, " + wrong + " wrong");
        System.exit(wrong == 0 && right > 0 ? 0 : 1);
    }

    /** Feeds a text, with blanks behind it, and reads it as a TABLE. */
    static int read(FuseKinds x, String text) {
        feed(x, text);
        return x.table(text.length());
    }

    /** How many bytes the tape has behind it. */
    static int feed(FuseKinds x, String text) {
        int has = x.count(3);
        for (int at = 0; at < text.length(); at += 20) {
            int[] five = fiveNumbers(text, at);
            has = x.feed(five[0], five[1], five[2], five[3], five[4]);
        }
        return has;
    }

    /** Twenty bytes of a text from there on, with blanks behind its end. */
    static int[] fiveNumbers(String text, int at) {
        int[] five = new int[5];
        for (int i = 0; i < 20; i++) {
            five[i / 4] = five[i / 4] << 8 | (at + i < text.length() ? text.charAt(at + i) : ' ');
        }
        return five;
    }

    static FuseKinds of(String text) {
        FuseKinds x = new FuseKinds();
        if (read(x, text) != 0) {
            throw new IllegalStateException(text);
        }
        return x;
    }

    static FuseKinds made(int which, int n, int m) {
        FuseKinds x = new FuseKinds();
        x.make(which, n, m);
        return x;
    }
}
