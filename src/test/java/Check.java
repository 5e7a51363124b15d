import java.io.IOException;
import java.nio.file.Files;
import java.nio.file.Path;
import java.util.Set;
import java.util.TreeSet;

/** What the tests share: telling a text, comparing answers, and ending with exit code 1 if one was not due. */
final class Check {
    interface Call {
        long make();
    }

    static final String INDEX = "IndexOutOfBoundsException";
    static final String ARGUMENT = "IllegalArgumentException";
    static final String STATE = "IllegalStateException";
    static final String NO_ELEMENT = "NoSuchElementException";
    static final String UNSUPPORTED = "UnsupportedOperationException";

    private static final Path DOCUMENT = Path.of("../shared/DOC.md");
    private static final Set<String> TOLD = new TreeSet<>();
    private static final Set<String> SECTIONS = new TreeSet<>();

    private static int made;
    private static int wrong;
    private static String sentence = "";

    private Check() {
    }

    /** What is looked at from here on belongs to this sentence of the document, of the section "Promise 1", say. */
    static void sentence(String section, String quote) {
        sentence = "[" + section + ": " + quote + "] ";
        due("the sentence is a new one", TOLD.add(sentence), true);
        SECTIONS.add(section);
        String all = document();
        int begin = all.indexOf("## " + section + (section.startsWith("Promise") ? ":" : " "));
        int end = all.indexOf(" ## ", begin + 1);
        String part = begin < 0 ? "" : all.substring(begin, end < 0 ? all.length() : end);
        due("the sentence stands in the document", all.isEmpty() || part.contains(quote), true);
    }

    private static String document() {
        try {
            return Files.readString(DOCUMENT).replaceAll("\\s+", " ");
        } catch (IOException e) {
            return "";
        }
    }

    /** Whether each promise of these has had a sentence of its own. */
    static void promisesSeen(int first, int last) {
        sentence = "";
        for (int promise = first; promise <= last; promise++) {
            due("a sentence of promise " + promise, SECTIONS.contains("Promise " + promise), true);
        }
        System.out.println(TOLD.size() + " sentences");
    }

    static void due(String what, long got, long want) {
        made++;
        if (got != want) {
            wrong++;
            System.out.println(sentence + what + " answered " + got + ", due is " + want);
        }
    }

    static void due(String what, boolean got, boolean want) {
        due(what, got ? 1 : 0, want ? 1 : 0);
    }

    static void due(String what, String got, String want) {
        made++;
        if (!got.equals(want)) {
            wrong++;
            System.out.println(sentence + what + " answered " + got + ", due is " + want);
        }
    }

    static void throwsDue(String what, String want, Call call) {
        made++;
        String got = thrownBy(call);
        if (!got.equals(want)) {
            wrong++;
            System.out.println(sentence + what + " threw '" + got + "', due is '" + want + "'");
        }
    }

    /** A call that throws leaves all as it was, and fault(), too. */
    static void refused(HungFaces x, String what, String want, Call call) {
        String before = seen(x);
        int fault = x.fault();
        throwsDue(what, want, call);
        due(what + " changes nothing", seen(x).equals(before), true);
        due(what + " leaves fault()", x.fault(), fault);
    }

    /** A wrong text that lies on the TAPE. */
    static void refusedText(HungFaces x, String what, Call reading, int fault) {
        String before = seen(x);
        throwsDue(what, ARGUMENT, reading);
        due("fault of " + what, x.fault(), fault);
        due("nothing stays of " + what, seen(x).equals(before), true);
        due("used up of " + what, x.end(1), false);
    }

    /** A wrong text: what it throws, its first wrong byte, that nothing stays, and that the TAPE is used up. */
    static void wrongText(HungFaces x, String text, int fault, Call reading) {
        x.end(0);
        tape(x, text);
        refusedText(x, "'" + text + "'", reading, fault);
    }

    static void wrongDoor(HungFaces x, String text, int fault) {
        wrongText(x, text, fault, x::door);
    }

    static void wrongLaw(HungFaces x, String text, int fault) {
        wrongText(x, text, fault, x::law);
    }

    /** A right text of THE DOOR: one more. */
    static void rightDoor(HungFaces x, String text) {
        int texts = x.count(3);
        x.end(0);
        tape(x, text);
        due("door '" + text + "'", x.door(), texts + 1);
        due("fault of '" + text + "'", x.fault(), HungFaces.NONE);
    }

    static void rightLaw(HungFaces x, String text, int lines) {
        x.end(0);
        tape(x, text);
        due("law '" + text + "'", x.law(), lines);
        due("lines of '" + text + "'", x.count(4), lines);
        due("fault of '" + text + "'", x.fault(), HungFaces.NONE);
    }

    static String thrownBy(Call call) {
        try {
            call.make();
            return "";
        } catch (RuntimeException e) {
            return e.getClass().getSimpleName();
        }
    }

    /** Puts the bytes on an empty TAPE. */
    static void tape(HungFaces x, int... bytes) {
        for (int at = 0; at < bytes.length; at += 20) {
            int[] numbers = new int[5];
            for (int i = 0; i < 20; i++) {
                int here = at + i < bytes.length ? bytes[at + i] : 0;
                numbers[i / 4] = numbers[i / 4] << 8 | here & 255;
            }
            x.feed(numbers[0], numbers[1], numbers[2], numbers[3], numbers[4]);
        }
        x.end(bytes.length);
    }

    static void tape(HungFaces x, String text) {
        int[] bytes = new int[text.length()];
        for (int i = 0; i < bytes.length; i++) {
            bytes[i] = text.charAt(i);
        }
        tape(x, bytes);
    }

    static HungFaces door(HungFaces x, String text) {
        tape(x, text);
        x.door();
        return x;
    }

    static HungFaces law(HungFaces x, String text) {
        tape(x, text);
        x.law();
        return x;
    }

    static HungFaces opened(String text) {
        return door(new HungFaces(), text);
    }

    /** So many PEOPLE by one text, the FACE of each with the MARKS of its number, the MASKS without any. */
    static HungFaces crowd(int people) {
        StringBuilder text = new StringBuilder();
        for (int i = 0; i < people; i++) {
            text.append(i == 0 ? "" : ";").append("person ").append(figures(i)).append(" 00000000");
        }
        return opened(text.toString());
    }

    static String figures(int bits) {
        StringBuilder text = new StringBuilder();
        for (int mark = 0; mark < 8; mark++) {
            text.append(bits >> mark & 1);
        }
        return text.toString();
    }

    /** All that can be seen of an object without changing it or its TAPE. */
    static String seen(HungFaces x) {
        StringBuilder all = new StringBuilder();
        for (int what = 0; what < 12; what++) {
            all.append(x.count(what)).append(' ');
        }
        int people = x.count(0);
        for (int one = 0; one < people; one++) {
            for (int what = 0; what < 6; what++) {
                all.append(x.person(one, what)).append(what < 4 ? "," : "/").append(what < 4 ? x.face(one, what) : 0);
                all.append(' ');
            }
            for (int other = 0; other < people; other++) {
                all.append(x.wish(one, other)).append(':').append(one == other ? 0 : x.thinks(one, other)).append(' ');
            }
        }
        for (int hook = 0; hook < x.count(1); hook++) {
            all.append(x.hook(hook)).append(';');
        }
        for (int ago = 0; ago < 61; ago++) {
            for (int what = 0; what < 5; what++) {
                all.append(x.log(ago, what)).append('.');
            }
        }
        int seed = x.seed(0);
        x.seed(seed);
        return all.append(" seed ").append(seed).append(" trial ").append(x.trial(3)).toString();
    }

    static void close() {
        System.out.println(made + " answers looked at, " + wrong + " not as due");
        if (wrong != 0 || made == 0) {
            System.exit(1);
        }
    }
}
