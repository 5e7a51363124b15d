import java.util.Arrays;
import java.util.Random;

/** Random laws: right ones against conditions made along with the text, wrong ones against a reading by states. */
public final class LawTest {
    private static final int NONE = HungFaces.NONE;
    private static final Random RANDOM = new Random(1103515245);
    private static final String[] PARTS = {"who", "hour", "hook", "marks", "hung", "free"};
    private static final String[] THINGS = {"hand", "fetch", "if", "or", "and", "not", "own", "wed", "who", "hour",
        "hook", "marks", "hung", "free", "(", ")", "<", ">", "+", ";", "7", "100", "1000", "x", "#", "mix"};

    interface Sum {
        int of(Model m, int one);
    }

    interface Condition {
        boolean of(Model m, int one);
    }

    public static void main(String[] args) {
        for (int i = 0; i < 300; i++) {
            hoursAsMeant();
        }
        for (int i = 0; i < 6000; i++) {
            wrongAsRead();
        }
        Check.close();
    }

    /** THE HOURS told again, in the plainest way. */
    static final class Model {
        final int people = 1 + RANDOM.nextInt(8);
        final int hooks = 1 + RANDOM.nextInt(8);
        final int mix = RANDOM.nextInt(101);
        final int thief = RANDOM.nextInt(101);
        final int[] marks = new int[people];
        final int[] wears = new int[people];
        final int[] ticket = new int[people];
        final boolean[] wed = new boolean[people];
        final int[] hung = new int[hooks];
        int hour;
        int seed = RANDOM.nextInt();
        Condition[] hand = {};
        Condition[] fetch = {};

        int hangs() {
            return (int) Arrays.stream(hung).filter(face -> face != NONE).count();
        }

        int faceOf(int one) {
            return wears[one] != NONE ? wears[one] : ticket[one] == NONE ? NONE : hung[ticket[one]];
        }

        int draw() {
            seed = seed * 1103515245 + 12345;
            return (seed & 0x7FFFFFFF) >> 16;
        }

        int pass() {
            int moves = 0;
            for (int one = 0; one < people; one++) {
                int who = one;
                int free = 0;
                while (free < hooks && hung[free] != NONE) {
                    free++;
                }
                if (wears[one] != NONE && ticket[one] == NONE && free < hooks
                        && Arrays.stream(hand).anyMatch(line -> line.of(this, who))) {
                    hung[free] = wears[one];
                    wears[one] = NONE;
                    ticket[one] = free;
                    moves++;
                } else if (wears[one] == NONE && ticket[one] != NONE
                        && Arrays.stream(fetch).anyMatch(line -> line.of(this, who))) {
                    wears[one] = hung[ticket[one]];
                    hung[ticket[one]] = NONE;
                    ticket[one] = NONE;
                    moves++;
                }
            }
            mixTickets();
            rob();
            hour++;
            return moves;
        }

        private void mixTickets() {
            boolean mixed = draw() % 100 < mix;
            int[] holders = java.util.stream.IntStream.range(0, people).filter(p -> ticket[p] != NONE).toArray();
            if (mixed && holders.length > 1) {
                int one = holders[draw() % holders.length];
                int[] others = Arrays.stream(holders).filter(p -> p != one).toArray();
                int other = others[draw() % others.length];
                int given = ticket[one];
                ticket[one] = ticket[other];
                ticket[other] = given;
            }
        }

        private void rob() {
            boolean robbed = draw() % 100 < thief;
            int[] faces = Arrays.stream(hung).filter(face -> face != NONE).toArray();
            if (robbed && faces.length > 0) {
                int face = faces[draw() % faces.length];
                marks[face] -= Integer.lowestOneBit(marks[face]);
            }
        }
    }

    private static String blanks() {
        return RANDOM.nextInt(3) == 0 ? "  " : " ";
    }

    private static Sum someSum(StringBuilder text) {
        Sum sum = somePart(text);
        while (RANDOM.nextInt(3) == 0) {
            text.append(RANDOM.nextBoolean() ? "+" : " + ");
            Sum left = sum;
            Sum right = somePart(text);
            sum = (m, one) -> left.of(m, one) + right.of(m, one);
        }
        return sum;
    }

    private static Sum somePart(StringBuilder text) {
        int kind = RANDOM.nextInt(PARTS.length + 3);
        if (kind >= PARTS.length) {
            int number = RANDOM.nextInt(RANDOM.nextBoolean() ? 10 : 110);
            text.append(number);
            return (m, one) -> number;
        }
        text.append(PARTS[kind]);
        switch (kind) {
            case 0:
                return (m, one) -> one;
            case 1:
                return (m, one) -> m.hour;
            case 2:
                return (m, one) -> m.ticket[one] == NONE ? 99 : m.ticket[one];
            case 3:
                return (m, one) -> m.faceOf(one) == NONE ? 0 : Integer.bitCount(m.marks[m.faceOf(one)]);
            case 4:
                return (m, one) -> m.hangs();
            default:
                return (m, one) -> m.hooks - m.hangs();
        }
    }

    private static Condition someCondition(StringBuilder text, int deep) {
        Condition any = someAll(text, deep);
        while (RANDOM.nextInt(4) == 0) {
            text.append(blanks()).append("or").append(blanks());
            Condition left = any;
            Condition right = someAll(text, deep);
            any = (m, one) -> left.of(m, one) || right.of(m, one);
        }
        return any;
    }

    private static Condition someAll(StringBuilder text, int deep) {
        Condition all = someAtom(text, deep);
        while (RANDOM.nextInt(4) == 0) {
            text.append(blanks()).append("and").append(blanks());
            Condition left = all;
            Condition right = someAtom(text, deep);
            all = (m, one) -> left.of(m, one) && right.of(m, one);
        }
        return all;
    }

    private static Condition someAtom(StringBuilder text, int deep) {
        int kind = RANDOM.nextInt(deep < 6 ? 8 : 5);
        if (kind == 0) {
            text.append("own");
            return (m, one) -> m.faceOf(one) == one;
        }
        if (kind == 1) {
            text.append("wed");
            return (m, one) -> m.wed[one];
        }
        if (kind < 5) {
            Sum left = someSum(text);
            boolean less = RANDOM.nextBoolean();
            text.append(less ? "<" : " > ");
            Sum right = someSum(text);
            return (m, one) -> less ? left.of(m, one) < right.of(m, one) : left.of(m, one) > right.of(m, one);
        }
        if (kind < 7) {
            text.append("not ");
            Condition inner = someAtom(text, deep + 1);
            return (m, one) -> !inner.of(m, one);
        }
        text.append("(");
        Condition inner = someCondition(text, deep + 1);
        text.append(")");
        return inner;
    }

    private static String someLaw(Model m) {
        StringBuilder text = new StringBuilder();
        int lines = 1 + RANDOM.nextInt(5);
        for (int i = 0; i < lines; i++) {
            StringBuilder line = new StringBuilder(i == 0 ? "" : ";");
            boolean hand = RANDOM.nextBoolean();
            line.append(hand ? "hand" : " fetch");
            Condition holds = (model, one) -> true;
            if (RANDOM.nextInt(5) > 0) {
                line.append(" if ");
                holds = someCondition(line, 0);
            }
            if (text.length() + line.length() <= 400) {
                text.append(line);
                Condition[] lineList = Arrays.copyOf(hand ? m.hand : m.fetch, (hand ? m.hand : m.fetch).length + 1);
                lineList[lineList.length - 1] = holds;
                m.hand = hand ? lineList : m.hand;
                m.fetch = hand ? m.fetch : lineList;
            }
        }
        return text.toString();
    }

    private static void hoursAsMeant() {
        Model m = new Model();
        HungFaces x = new HungFaces();
        StringBuilder text = new StringBuilder("hooks " + m.hooks + ";mix " + m.mix + ";thief " + m.thief);
        Arrays.fill(m.ticket, NONE);
        Arrays.fill(m.hung, NONE);
        for (int one = 0; one < m.people; one++) {
            m.marks[one] = RANDOM.nextInt(256);
            m.wears[one] = one;
            text.append(";person ").append(Check.figures(m.marks[one])).append(" 00000000");
        }
        if (m.people > 2) {
            m.wed[0] = true;
            m.wed[2] = true;
            text.append(";wed 2 0");
        }
        Check.door(x, text.toString());
        x.seed(m.seed);
        String law = someLaw(m);
        Check.law(x, law);
        Check.due("lines of " + law, x.count(4), m.hand.length + m.fetch.length);
        for (int hour = 0; hour < 12; hour++) {
            int wrongByTrial = x.trial(1);
            Check.due("moves by " + law, x.hours(1), m.pass());
            Check.due("trial by " + law, wrongByTrial, Integer.bitCount(x.wrong()));
            for (int one = 0; one < m.people; one++) {
                Check.due("wears by " + law, x.person(one, 1), m.wears[one]);
                Check.due("ticket by " + law, x.person(one, 2), m.ticket[one]);
                Check.due("marks by " + law, x.face(one, 0), m.marks[one]);
            }
            for (int hook = 0; hook < m.hooks; hook++) {
                Check.due("hook by " + law, x.hook(hook), m.hung[hook]);
            }
            if (RANDOM.nextInt(3) == 0) {
                stealBoth(x, m);
            }
        }
    }

    private static void stealBoth(HungFaces x, Model m) {
        int one = RANDOM.nextInt(m.people);
        int hook = RANDOM.nextInt(m.hooks);
        if (m.wears[one] == NONE && m.hung[hook] != NONE) {
            x.steal(one, hook);
            m.wears[one] = m.hung[hook];
            m.hung[hook] = NONE;
        }
    }

    private static void wrongAsRead() {
        StringBuilder text = new StringBuilder(RANDOM.nextBoolean() ? "hand if " : "");
        if (RANDOM.nextInt(4) > 0) {
            someCondition(text, 0);
        }
        int changes = RANDOM.nextInt(4);
        for (int i = 0; i < changes; i++) {
            int at = RANDOM.nextInt(text.length() + 1);
            String thing = THINGS[RANDOM.nextInt(THINGS.length)];
            if (RANDOM.nextBoolean()) {
                text.insert(at, " " + thing + (RANDOM.nextBoolean() ? " " : ""));
            } else {
                text.delete(at, Math.min(text.length(), at + RANDOM.nextInt(6)));
            }
        }
        String told = text.substring(0, Math.min(400, text.length()));
        HungFaces x = new HungFaces();
        Check.tape(x, told);
        int want = firstWrong(told);
        Check.throwsDue("law '" + told + "'", want == NONE ? "" : Check.ARGUMENT, x::law);
        Check.due("fault of '" + told + "'", x.fault(), want);
    }

    /** Goes from state to state: what may stand next, and what is open, as ( and n. */
    private static int firstWrong(String text) {
        java.util.regex.Matcher things = java.util.regex.Pattern.compile("[a-z]+|[0-9]+|[^ ]").matcher(text);
        String state = "line";
        String open = "";
        int lines = 0;
        boolean any = false;
        while (things.find()) {
            any = true;
            String thing = things.group();
            int at = things.start();
            boolean part = Arrays.asList(PARTS).contains(thing) || thing.matches("[0-9]{1,3}");
            if (state.equals("line") && (thing.equals("hand") || thing.equals("fetch")) && lines < 12) {
                lines++;
                state = "told";
            } else if (state.equals("told") && thing.equals("if")) {
                state = "atom";
            } else if (state.equals("atom") && (thing.equals("not") || thing.equals("(")) && open.length() < 6) {
                open += thing.charAt(0);
            } else if (state.equals("atom") && (thing.equals("own") || thing.equals("wed"))) {
                open = open.replaceAll("n+$", "");
                state = "behind";
            } else if ((state.equals("atom") || state.equals("left")) && part) {
                state = "left part";
            } else if (state.equals("left part") && thing.equals("+")) {
                state = "left";
            } else if (state.equals("left part") && thing.matches("[<>]")) {
                state = "right";
            } else if (state.equals("right") && part) {
                state = "right part";
            } else if (state.equals("right part") && thing.equals("+")) {
                state = "right";
            } else if (state.matches("behind|right part") && thing.matches("and|or")) {
                open = open.replaceAll("n+$", "");
                state = "atom";
            } else if (state.matches("behind|right part") && thing.equals(")") && open.contains("(")) {
                open = open.replaceAll("\\(n*$", "").replaceAll("n+$", "");
                state = "behind";
            } else if (thing.equals(";") && (state.equals("told")
                    || state.matches("behind|right part") && !open.contains("("))) {
                open = "";
                state = "line";
            } else {
                return at;
            }
        }
        boolean whole = !any || state.equals("told") || state.matches("behind|right part") && !open.contains("(");
        return whole ? NONE : text.length();
    }
}
