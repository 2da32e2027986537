/** What the tests share: tests with names, answers that are due, moors told in letters, all that can be seen of one. */
final class Asked {
    /** What a refusal is taken from by owns, takes, newcomer, net and quarrel. */
    static final int FAR = 1000000000;
    static final int MIN = Integer.MIN_VALUE;
    static final int MAX = Integer.MAX_VALUE;
    static final String KINDS = "pswcon";

    /** A call, asked of an object that the test has made. */
    interface Call {
        int of(AloneIsAQuantity x);
    }

    private static String name = "";
    private static int tests = 0;
    private static int asked = 0;
    private static int wrong = 0;

    private Asked() {
    }

    static void test(String what, Runnable body) {
        name = what;
        tests++;
        int before = asked;
        try {
            body.run();
        } catch (RuntimeException | StackOverflowError e) {
            tellWrong(e + " at " + e.getStackTrace()[0]);
        }
        if (asked == before) {
            tellWrong("asks nothing");
        }
    }

    static void due(int want, int got) {
        asked++;
        if (want != got) {
            tellWrong(got + ", due is " + want);
        }
    }

    static void same(String want, String got) {
        asked++;
        if (!want.equals(got)) {
            tellWrong(got + ", due is " + want);
        }
    }

    private static void tellWrong(String how) {
        wrong++;
        StringBuilder at = new StringBuilder();
        for (StackTraceElement e : new Throwable().getStackTrace()) {
            if (e.getClassName().endsWith("Test") && !e.getMethodName().equals("main")) {
                at.append(" <- ").append(e.getLineNumber());
            }
        }
        System.out.println("[" + name + "]" + at + ": " + how);
    }

    static void end(String file) {
        System.out.println(file + ": " + tests + " tests, " + asked + " answers, " + wrong + " wrong");
        if (wrong > 0) {
            System.exit(1);
        }
    }

    static void letters(AloneIsAQuantity x, String text) {
        for (int i = 0; i < text.length(); i++) {
            x.letter(text.charAt(i));
        }
    }

    static int tell(AloneIsAQuantity x, String text) {
        letters(x, text);
        return x.moor();
    }

    static AloneIsAQuantity moorOf(String text) {
        AloneIsAQuantity x = new AloneIsAQuantity();
        int answer = tell(x, text);
        if (answer < 1) {
            throw new IllegalStateException(text + " has the fault " + answer);
        }
        return x;
    }

    static int told(String text) {
        return tell(new AloneIsAQuantity(), text);
    }

    static String times(int n, String text) {
        return text.repeat(n);
    }

    /** A moor without people on the DAY told. */
    static AloneIsAQuantity onDay(int day) {
        AloneIsAQuantity x = new AloneIsAQuantity();
        passTo(x, day);
        return x;
    }

    static void passTo(AloneIsAQuantity x, int day) {
        while (x.count(1) < day) {
            x.days(Math.min(60, day - x.count(1)));
        }
    }

    /** All that can be seen of one but REFUSALS; it asks nothing that is refused. */
    static String state(AloneIsAQuantity x) {
        StringBuilder all = new StringBuilder();
        for (int what = 0; what <= 7; what++) {
            all.append(x.count(what)).append(what < 7 ? "," : ":");
        }
        int people = x.count(0);
        for (int one = 0; one < people; one++) {
            all.append(" (");
            for (int what = 0; what <= 6; what++) {
                all.append(x.person(one, what)).append(',');
            }
            for (int other = 0; other < people; other++) {
                all.append(other == one ? "-" : Integer.toString(x.loan(one, other))).append(' ');
            }
            all.append(x.net(one)).append(' ').append(x.owns(one)).append(')');
        }
        return all.toString();
    }

    /** REFUSALS -1 .. -6. */
    static String refusals(AloneIsAQuantity x) {
        StringBuilder all = new StringBuilder();
        for (int what = 11; what <= 16; what++) {
            all.append(x.count(what)).append(' ');
        }
        return all.toString();
    }
}
