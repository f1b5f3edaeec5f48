/** What the tests share: feeding texts, comparing answers, telling what is thrown. */
final class Bench {
    /** In the place of an answer: the call threw this. */
    static final long NO_SUCH = 1L << 40;
    static final long BAD_ARGUMENT = (1L << 40) + 1;
    static final long BAD_STATE = (1L << 40) + 2;

    interface Call {
        long answer();
    }

    private static int wrong = 0;
    private static int asked = 0;
    private static String heading = "";

    private Bench() {
    }

    static long answer(Call call) {
        try {
            return call.answer();
        } catch (RuntimeException e) {
            // By exact class: a machine's exception below one of these is not what is due.
            if (e.getClass() == java.util.NoSuchElementException.class) {
                return NO_SUCH;
            }
            if (e.getClass() == IllegalArgumentException.class) {
                return BAD_ARGUMENT;
            }
            if (e.getClass() == IllegalStateException.class) {
                return BAD_STATE;
            }
            throw e;
        }
    }

    static String name(long answer) {
        return answer == NO_SUCH ? "NoSuchElementException"
                : answer == BAD_ARGUMENT ? "IllegalArgumentException"
                : answer == BAD_STATE ? "IllegalStateException" : Long.toString(answer);
    }

    static void due(String what, long want, Call call) {
        asked++;
        long got = answer(call);
        if (got != want) {
            wrong++;
            System.out.println(heading + what + " answered " + name(got) + ", due is " + name(want));
        }
    }

    static void holds(String what, boolean isSo) {
        asked++;
        if (!isSo) {
            wrong++;
            System.out.println(heading + what);
        }
    }

    /** The test of one sentence of the document; what is wrong in it is told with the sentence. */
    static void sentence(String words, Runnable test) {
        heading = "[" + words + "] ";
        int before = asked;
        try {
            test.run();
        } catch (RuntimeException e) {
            wrong++;
            System.out.println(heading + "ended by " + e);
        }
        holds("nothing was asked", asked > before);
        heading = "";
    }

    static int howManyWrong() {
        return wrong;
    }

    static void end() {
        System.out.println(wrong == 0 ? asked + " answers are as due" : wrong + " answers of " + asked + " are not as due");
        if (wrong != 0) {
            System.exit(1);
        }
    }

    /** Twenty bytes a call, as the face wants them; what is missing in the last ones is 0. */
    static void feed(StrikeBench bench, byte[] bytes) {
        for (int at = 0; at < bytes.length; at += 20) {
            bench.feed(number(bytes, at), number(bytes, at + 4), number(bytes, at + 8),
                    number(bytes, at + 12), number(bytes, at + 16));
        }
    }

    static int number(byte[] bytes, int at) {
        int number = 0;
        for (int i = at; i < at + 4; i++) {
            number = number << 8 | (i < bytes.length ? bytes[i] & 255 : 0);
        }
        return number;
    }

    static byte[] bytes(String text) {
        return text.getBytes(java.nio.charset.StandardCharsets.ISO_8859_1);
    }

    static int tell(StrikeBench bench, String text) {
        feed(bench, bytes(text));
        return bench.text(text.length());
    }

    /** Reads without a fault, with so many in the row. */
    static void reads(String text, int row) {
        StrikeBench bench = new StrikeBench();
        due("{" + text + "}", row, () -> tell(bench, text));
        due("fault() of {" + text + "}", StrikeBench.NONE, bench::fault);
    }

    static void fails(String text, int kind, int place) {
        StrikeBench bench = new StrikeBench();
        due("{" + text + "}", kind - 10, () -> tell(bench, text));
        due("fault() of {" + text + "}", place, bench::fault);
    }

    static StrikeBench of(String text) {
        StrikeBench bench = new StrikeBench();
        int row = tell(bench, text);
        if (row < 0) {
            wrong++;
            System.out.println(heading + "{" + text + "} has fault " + (row + 10));
        }
        return bench;
    }
}
