/** What the tests share: they compare answers, count the wrong ones, and tell texts to an object. */
final class Due {
    static final String FIVE = "person 100;person 30;person 8;person 50;person 5;likes 0 09300;likes 1 40050;"
            + "likes 2 93000;asked 2 0;asked 3 1;asked 4 0;reinsured 2 3;reinsured 4 2;wed 0 1 happy 25";

    private static final int PROMISES = 45;

    private static int checked = 0;
    private static int wrong = 0;
    private static String sentence = "";
    private static int checkedAhead = 0;
    private static final int[] sentencesOf = new int[PROMISES + 1];

    interface Call {
        long answer();
    }

    private Due() {
    }

    /** All that is checked from here on is what a sentence says of the promise with that number. */
    static void says(int promise, String ofDocument) {
        endSentence();
        sentence = "promise " + promise + ", \"" + ofDocument + "\": ";
        checkedAhead = checked;
        sentencesOf[promise]++;
    }

    private static void endSentence() {
        if (!sentence.isEmpty() && checked == checkedAhead) {
            fail("nothing is checked of it");
        }
    }

    /** Each promise has had its sentences, and each of these a check. */
    static void allPromises() {
        endSentence();
        sentence = "";
        for (int promise = 1; promise <= PROMISES; promise++) {
            if (sentencesOf[promise] == 0) {
                fail("promise " + promise + " has no sentence");
            }
        }
    }

    static void due(String call, long got, long want) {
        checked++;
        if (got != want) {
            fail(call + " answered " + got + ", due is " + want);
        }
    }

    static void due(String call, boolean got, boolean want) {
        due(call, got ? 1 : 0, want ? 1 : 0);
    }

    static void dueThrow(String call, Class<?> want, Call made) {
        checked++;
        String got;
        try {
            got = "answered " + made.answer();
        } catch (RuntimeException e) {
            if (e.getClass() == want) {
                return;
            }
            got = "threw " + e;
        }
        fail(call + " " + got + ", due is " + want);
    }

    /** The call throws just that, and nothing that can be seen is another then (fault() is not looked at). */
    static void refuses(RivalWeds x, String call, Class<?> want, Call made) {
        String ahead = Seen.of(x);
        dueThrow(call, want, made);
        same(call + " changes nothing", Seen.of(x), ahead);
    }

    static void same(String call, String got, String want) {
        checked++;
        if (!got.equals(want)) {
            fail(call + ": seen is\n" + got + ", due is\n" + want);
        }
    }

    static void bounds(String call, Call made) {
        dueThrow(call, IndexOutOfBoundsException.class, made);
    }

    static void argument(String call, Call made) {
        dueThrow(call, IllegalArgumentException.class, made);
    }

    static void state(String call, Call made) {
        dueThrow(call, IllegalStateException.class, made);
    }

    static void element(String call, Call made) {
        dueThrow(call, java.util.NoSuchElementException.class, made);
    }

    static void unsupported(String call, Call made) {
        dueThrow(call, UnsupportedOperationException.class, made);
    }

    /** The tape is the text then. */
    static void tape(RivalWeds x, String text) {
        x.end(0);
        int fed = 0;
        while (fed < text.length()) {
            fed = x.feed(number(text, fed), number(text, fed + 4), number(text, fed + 8), number(text, fed + 12),
                    number(text, fed + 16));
        }
        x.end(text.length());
    }

    private static int number(String text, int from) {
        int number = 0;
        for (int i = from; i < from + 4; i++) {
            number = number << 8 | (i < text.length() ? text.charAt(i) & 255 : 0);
        }
        return number;
    }

    static void bytes(RivalWeds x, int... bytes) {
        StringBuilder text = new StringBuilder();
        for (int one : bytes) {
            text.append((char) one);
        }
        tape(x, text.toString());
    }

    static int town(RivalWeds x, String text) {
        tape(x, text);
        return x.town();
    }

    static int law(RivalWeds x, String text) {
        tape(x, text);
        return x.law();
    }

    static RivalWeds townOf(String text) {
        RivalWeds x = new RivalWeds();
        town(x, text);
        return x;
    }

    static void close(String test) {
        System.out.println(test + ": " + checked + " answers, " + wrong + " not as due");
        if (wrong != 0) {
            System.exit(1);
        }
    }

    static void fail(String text) {
        wrong++;
        System.out.println(sentence + text);
    }
}
