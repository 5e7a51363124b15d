/** What the tests share: telling a text, comparing answers, and ending with exit code 1 if one was not due. */
final class Check {
    interface Call {
        long make();
    }

    static final String INDEX = "IndexOutOfBoundsException";
    static final String ARGUMENT = "IllegalArgumentException";
    static final String STATE = "IllegalStateException";
    static final String NO_ELEMENT = "NoSuchElementException";
    static final String UNSUPPORTED = "UnsupportedOperationException";

    private static int made;
    private static int wrong;

    private Check() {
    }

    static void due(String what, long got, long want) {
        made++;
        if (got != want) {
            wrong++;
            System.out.println(what + " answered " + got + ", due is " + want);
        }
    }

    static void due(String what, boolean got, boolean want) {
        due(what, got ? 1 : 0, want ? 1 : 0);
    }

    static void due(String what, String got, String want) {
        made++;
        if (!got.equals(want)) {
            wrong++;
            System.out.println(what + " answered " + got + ", due is " + want);
        }
    }

    static void throwsDue(String what, String want, Call call) {
        made++;
        String got = thrownBy(call);
        if (!got.equals(want)) {
            wrong++;
            System.out.println(what + " threw '" + got + "', due is '" + want + "'");
        }
    }

    static String thrownBy(Call call) {
        try {
            call.make();
            return "";
        } catch (RuntimeException e) {
            return e.getClass().getSimpleName();
        }
    }

    /** Puts the bytes on an empty TAPE. */
    static void tape(HungFaces x, int... bytes) {
        for (int at = 0; at < bytes.length; at += 20) {
            int[] numbers = new int[5];
            for (int i = 0; i < 20; i++) {
                int here = at + i < bytes.length ? bytes[at + i] : 0;
                numbers[i / 4] = numbers[i / 4] << 8 | here & 255;
            }
            x.feed(numbers[0], numbers[1], numbers[2], numbers[3], numbers[4]);
        }
        x.end(bytes.length);
    }

    static void tape(HungFaces x, String text) {
        int[] bytes = new int[text.length()];
        for (int i = 0; i < bytes.length; i++) {
            bytes[i] = text.charAt(i);
        }
        tape(x, bytes);
    }

    static HungFaces door(HungFaces x, String text) {
        tape(x, text);
        x.door();
        return x;
    }

    static HungFaces law(HungFaces x, String text) {
        tape(x, text);
        x.law();
        return x;
    }

    static HungFaces opened(String text) {
        return door(new HungFaces(), text);
    }

    /** So many PEOPLE by one text, the FACE of each with the MARKS of its number, the MASKS without any. */
    static HungFaces crowd(int people) {
        StringBuilder text = new StringBuilder();
        for (int i = 0; i < people; i++) {
            text.append(i == 0 ? "" : ";").append("person ").append(figures(i)).append(" 00000000");
        }
        return opened(text.toString());
    }

    static String figures(int bits) {
        StringBuilder text = new StringBuilder();
        for (int mark = 0; mark < 8; mark++) {
            text.append(bits >> mark & 1);
        }
        return text.toString();
    }

    /** All that can be seen of an object without changing it or its TAPE. */
    static String seen(HungFaces x) {
        StringBuilder all = new StringBuilder();
        for (int what = 0; what < 12; what++) {
            all.append(x.count(what)).append(' ');
        }
        int people = x.count(0);
        for (int one = 0; one < people; one++) {
            for (int what = 0; what < 6; what++) {
                all.append(x.person(one, what)).append(what < 4 ? "," : "/").append(what < 4 ? x.face(one, what) : 0);
                all.append(' ');
            }
            for (int other = 0; other < people; other++) {
                all.append(x.wish(one, other)).append(':').append(one == other ? 0 : x.thinks(one, other)).append(' ');
            }
        }
        for (int hook = 0; hook < x.count(1); hook++) {
            all.append(x.hook(hook)).append(';');
        }
        for (int ago = 0; ago < 61; ago++) {
            for (int what = 0; what < 5; what++) {
                all.append(x.log(ago, what)).append('.');
            }
        }
        int seed = x.seed(0);
        x.seed(seed);
        return all.append(" seed ").append(seed).append(" trial ").append(x.trial(3)).toString();
    }

    static void close() {
        System.out.println(made + " answers looked at, " + wrong + " not as due");
        if (wrong != 0 || made == 0) {
            System.exit(1);
        }
    }
}
