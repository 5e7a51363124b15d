import java.lang.reflect.InvocationTargetException;
import java.lang.reflect.Method;
import java.util.ArrayList;
import java.util.Collections;
import java.util.List;
import java.util.Map;
import java.util.Random;
import java.util.TreeMap;

/** Promises 1 to 50: random runs of calls, each made on an object of the class and on its Twin; both answer alike. */
public final class TwinTest {
    private static final int RUNS = 400;
    private static final int CALLS = 512;
    /**
     * Each call with how often it is made and its arguments: p a PERSON or FACE, h a HOOK, m a MARK, b a boolean,
     * i any int, s a set, and 5, 8, .. a number of about so many.
     */
    private static final String[] CALLED = {
        "feed 1 iiiii", "end 1 20", "door 4", "law 4", "fault 1", "person 4 p5", "face 4 p3", "hook 2 h", "wish 2 p10",
        "thinks 3 pp", "hand 30 ph", "fetch 15 p", "mix 10 pp", "steal 14 ph", "change 8 pp", "shave 4 pm",
        "graft 4 ppm", "meet 5 pp", "hours 6 50", "wrong 3", "lost 1", "unclaimed 1", "swaps 4", "saved 3", "marks 2",
        "unknown 1", "passes 2 255 8", "core 4 p", "gains 2", "block 6 s", "fits 3 p", "ask 3 p", "clash 3",
        "queue 4 10", "forged 4 255", "ways 3 10", "talk 4 h", "row 2 b", "chain 3 pp", "hears 4 p20", "trial 3 30",
        "span 6 30b", "led 3 pb", "log 6 60 4", "seed 2 i", "undo 12", "image 1", "back 1", "count 4 11"};

    private static final Random RANDOM = new Random(14);
    private static final Map<String, Integer> ANSWERED = new TreeMap<>();
    private static final Map<String, Integer> THROWN = new TreeMap<>();

    private final HungFaces one = new HungFaces();
    private final Twin other = new Twin();
    private int made;

    public static void main(String[] args) throws ReflectiveOperationException {
        List<String> often = new ArrayList<>();
        for (String called : CALLED) {
            often.addAll(Collections.nCopies(Integer.parseInt(called.split(" ")[1]), called));
        }
        for (int run = 0; run < RUNS; run++) {
            new TwinTest().run(often);
        }
        allSeen();
        Check.close();
    }

    private void run(List<String> often) throws ReflectiveOperationException {
        call("fault");
        call("end", 1);
        tell(TwinWords.people(RANDOM));
        call("door");
        tell(TwinWords.law(RANDOM));
        call("law");
        boolean ofTexts = RANDOM.nextInt(8) == 0;
        while (made < CALLS) {
            boolean text = ofTexts && RANDOM.nextInt(4) == 0;
            String[] called = (text ? "door" : often.get(RANDOM.nextInt(often.size()))).split(" ");
            if (called[0].equals("door")) {
                tell(TwinWords.door(RANDOM, other.count(0)));
            } else if (called[0].equals("law")) {
                tell(TwinWords.law(RANDOM));
            } else if (List.of("fits", "ask", "clash").contains(called[0])) {
                tell(TwinWords.said(RANDOM, other.count(0)));
            }
            call(called[0], arguments(called));
            if (List.of("door", "law").contains(called[0])) {
                call("fault");
            }
        }
        same();
    }

    /** In pieces of twenty bytes; now and then what lay on the TAPE stays ahead of it. */
    private void tell(String text) throws ReflectiveOperationException {
        if (RANDOM.nextInt(20) > 0) {
            call("end", 0);
        }
        int all = text.length();
        for (int at = 0; at < text.length(); at += 20) {
            Object[] numbers = new Object[5];
            for (int i = 0; i < 5; i++) {
                int number = 0;
                for (int k = at + 4 * i; k < at + 4 * i + 4; k++) {
                    number = number << 8 | (k < text.length() ? text.charAt(k) : 0);
                }
                numbers[i] = number;
            }
            call("feed", numbers);
        }
        call("end", all);
    }

    private Object[] arguments(String[] called) {
        List<Object> made = new ArrayList<>();
        for (int i = 2; i < called.length; i++) {
            String kinds = called[i].replaceAll("[0-9]", "");
            for (char kind : kinds.toCharArray()) {
                made.add(argument(kind));
            }
            String number = called[i].replaceAll("[^0-9]", "");
            if (!number.isEmpty()) {
                int place = called[i].indexOf(number) == 0 ? made.size() - kinds.length() : made.size();
                made.add(place, some(Integer.parseInt(number) + 1));
            }
        }
        return made.toArray();
    }

    private Object argument(char kind) {
        switch (kind) {
            case 'p':
                return some(other.count(0));
            case 'h':
                return some(other.count(1));
            case 'm':
                return some(8);
            case 'b':
                return RANDOM.nextBoolean();
            case 's':
                return RANDOM.nextInt(4) == 0 ? RANDOM.nextInt() : RANDOM.nextInt(1024) & RANDOM.nextInt(1024);
            default:
                return RANDOM.nextInt();
        }
    }

    /** Mostly one of the numbers that are, else one beside them, or any int. */
    private static int some(int below) {
        int kind = RANDOM.nextInt(60);
        if (kind < 2) {
            return kind == 0 ? RANDOM.nextInt() : RANDOM.nextBoolean() ? Integer.MIN_VALUE : Integer.MAX_VALUE;
        }
        return kind < 8 ? RANDOM.nextInt(below + 3) - 1 : RANDOM.nextInt(Math.max(1, below));
    }

    private void call(String name, Object... arguments) throws ReflectiveOperationException {
        made++;
        String got = answer(one, name, arguments);
        String want = answer(other, name, arguments);
        Check.due("call " + made + ": " + name + List.of(arguments), got, want);
        Map<String, Integer> counted = want.startsWith("throws") ? THROWN : ANSWERED;
        counted.merge(want.startsWith("throws") ? name + " " + want : name, 1, Integer::sum);
    }

    private static String answer(Object asked, String name, Object[] arguments) throws ReflectiveOperationException {
        for (Method method : asked.getClass().getDeclaredMethods()) {
            if (method.getName().equals(name)) {
                try {
                    return String.valueOf(method.invoke(asked, arguments));
                } catch (InvocationTargetException e) {
                    return "throws " + e.getCause().getClass().getSimpleName();
                }
            }
        }
        throw new NoSuchMethodException(name);
    }

    /** All that can be asked of both, at the end of a run. */
    private void same() throws ReflectiveOperationException {
        int people = other.count(0);
        for (int i = 0; i < 60; i++) {
            call("log", i, 0);
            call("log", i, 1);
            call("log", i, 2);
            call("log", i, 3);
            call("log", i, 4);
            call("count", i % 12);
        }
        for (int person = 0; person < people; person++) {
            for (int k = 0; k < people; k++) {
                call("wish", person, k);
                call("thinks", person, k);
                call("person", person, k % 6);
                call("face", person, k % 4);
            }
        }
        call("seed", 1);
        call("fault");
    }

    /** No call, and no exception that the document names, was left out by chance. */
    private static void allSeen() {
        for (Method method : HungFaces.class.getMethods()) {
            if (method.getDeclaringClass() != HungFaces.class) {
                continue;
            }
            Check.due("answers of " + method.getName(), ANSWERED.getOrDefault(method.getName(), 0) > 9, true);
            for (Class<?> thrown : method.getExceptionTypes()) {
                String told = method.getName() + " throws " + thrown.getSimpleName();
                Check.due(told, THROWN.getOrDefault(told, 0) > 4, true);
            }
        }
    }
}
