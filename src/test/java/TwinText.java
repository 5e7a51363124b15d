import java.util.ArrayList;
import java.util.List;
import java.util.Set;
import java.util.TreeSet;
import java.util.regex.Matcher;
import java.util.regex.Pattern;

/** The texts of THE DOOR and of THE LAW, read for the Twin: THE LAW becomes a tree of conditions and numbers. */
final class TwinText {
    private static final int NONE = -1;

    /** A condition of a PERSON. */
    interface Holds {
        boolean test(Twin.Carnival at, int person);
    }

    /** A number of a PERSON. */
    interface Number {
        int of(Twin.Carnival at, int person);
    }

    record Line(String word, Holds holds) {
    }

    private record Thing(String text, int begin) {
    }

    private static final class Wrong extends Exception {
        private static final long serialVersionUID = 1;
        private final int at;

        Wrong(int at) {
            this.at = at;
        }
    }

    private final List<Thing> things = new ArrayList<>();
    private int next;

    TwinText(List<Integer> bytes) {
        StringBuilder text = new StringBuilder();
        for (int one : bytes) {
            text.append((char) one);
        }
        Matcher thing = Pattern.compile("[a-z]+|[0-9]+|[^ ]", Pattern.DOTALL).matcher(text);
        while (thing.find()) {
            things.add(new Thing(thing.group(), thing.start()));
        }
        things.add(new Thing("", text.length()));
    }

    private String here() {
        return things.get(next).text();
    }

    private Wrong wrong() {
        return new Wrong(things.get(next).begin());
    }

    private void must(boolean right) throws Wrong {
        if (!right) {
            throw wrong();
        }
    }

    private boolean takes(String text) {
        if (!here().equals(text)) {
            return false;
        }
        next++;
        return true;
    }

    private boolean numberFollows() {
        return here().matches("[0-9]+");
    }

    private int number(int least, int most) throws Wrong {
        must(here().matches("[0-9]{1,3}"));
        int number = Integer.parseInt(here());
        must(number >= least && number <= most);
        next++;
        return number;
    }

    // ---- THE DOOR ----

    /** The first wrong byte, or none. */
    int readDoor(Twin.Carnival draft) {
        try {
            for (int line = 1; !here().isEmpty() || line > 1; line++) {
                must(line <= 14);
                doorLine(draft);
                if (here().isEmpty()) {
                    break;
                }
                must(takes(";"));
            }
            return NONE;
        } catch (Wrong e) {
            return e.at;
        }
    }

    private void doorLine(Twin.Carnival draft) throws Wrong {
        int last = draft.people.size() - 1;
        must(List.of("person", "wish", "wed", "knows", "hooks", "mix", "thief").contains(here()));
        must(!here().equals("person") || last < 9);
        switch (things.get(next++).text()) {
            case "person":
                Twin.Person one = new Twin.Person(last + 1);
                one.face = figures();
                one.mask = figures();
                draft.people.add(one);
                break;
            case "wish":
                Twin.Person whose = draft.people.get(number(0, last));
                whose.told = wished(last);
                break;
            case "wed":
                int first = single(draft, NONE);
                int second = single(draft, first);
                draft.people.get(first).spouse = second;
                draft.people.get(second).spouse = first;
                break;
            case "knows":
                int who = number(0, last);
                do {
                    must(!numberFollows() || !isNumber(who));
                    draft.people.get(who).knows.add(number(0, last));
                } while (numberFollows());
                break;
            case "mix":
                draft.mix = number(0, 100);
                break;
            case "thief":
                draft.thief = number(0, 100);
                break;
            default:
                hooks(draft);
                break;
        }
    }

    private boolean isNumber(int number) {
        return here().length() < 4 && Integer.parseInt(here()) == number;
    }

    private Set<Integer> figures() throws Wrong {
        must(here().matches("[01]{8}"));
        Set<Integer> marks = new TreeSet<>();
        for (int mark = here().indexOf('1'); mark >= 0; mark = here().indexOf('1', mark + 1)) {
            marks.add(mark);
        }
        next++;
        return marks;
    }

    private List<Integer> wished(int last) throws Wrong {
        List<Integer> told = new ArrayList<>();
        do {
            for (int before : told) {
                must(!isNumber(before));
            }
            told.add(number(0, last));
        } while (numberFollows());
        return told;
    }

    private int single(Twin.Carnival draft, int besides) throws Wrong {
        for (int one = 0; one < draft.people.size() && numberFollows(); one++) {
            must(!isNumber(one) || one != besides && draft.people.get(one).spouse == NONE);
        }
        return number(0, draft.people.size() - 1);
    }

    private void hooks(Twin.Carnival draft) throws Wrong {
        int taken = 0;
        for (int hook = 0; hook < draft.hooks.size(); hook++) {
            taken = draft.hooks.get(hook) != NONE || draft.holder(hook) != NONE ? hook + 1 : taken;
        }
        int number = number(Math.max(1, taken), 12);
        while (draft.hooks.size() > number) {
            draft.hooks.remove(draft.hooks.size() - 1);
        }
        while (draft.hooks.size() < number) {
            draft.hooks.add(NONE);
        }
    }

    // ---- THE LAW ----

    int readLaw(List<Line> lines) {
        try {
            while (!here().isEmpty() || !lines.isEmpty()) {
                must(lines.size() < 12 && List.of("hand", "fetch").contains(here()));
                String word = things.get(next++).text();
                lines.add(new Line(word, takes("if") ? condition(0) : (at, person) -> true));
                if (here().isEmpty()) {
                    break;
                }
                must(takes(";"));
            }
            return NONE;
        } catch (Wrong e) {
            return e.at;
        }
    }

    private Holds condition(int deep) throws Wrong {
        Holds left = all(deep);
        while (takes("or")) {
            Holds before = left;
            Holds right = all(deep);
            left = (at, person) -> before.test(at, person) || right.test(at, person);
        }
        return left;
    }

    private Holds all(int deep) throws Wrong {
        Holds left = atom(deep);
        while (takes("and")) {
            Holds before = left;
            Holds right = atom(deep);
            left = (at, person) -> before.test(at, person) && right.test(at, person);
        }
        return left;
    }

    private Holds atom(int deep) throws Wrong {
        must(deep < 6 || !here().equals("not") && !here().equals("("));
        if (takes("not")) {
            Holds of = atom(deep + 1);
            return (at, person) -> !of.test(at, person);
        }
        if (takes("(")) {
            Holds of = condition(deep + 1);
            must(takes(")"));
            return of;
        }
        if (takes("own")) {
            return (at, person) -> faceOf(at, person) == person;
        }
        if (takes("wed")) {
            return (at, person) -> at.people.get(person).spouse != NONE;
        }
        Number left = sum();
        must(here().equals("<") || here().equals(">"));
        boolean less = takes("<") || !takes(">");
        Number right = sum();
        return (at, person) -> less ? left.of(at, person) < right.of(at, person)
                : left.of(at, person) > right.of(at, person);
    }

    private Number sum() throws Wrong {
        List<Number> parts = new ArrayList<>();
        do {
            parts.add(part());
        } while (takes("+"));
        return (at, person) -> parts.stream().mapToInt(part -> part.of(at, person)).sum();
    }

    private Number part() throws Wrong {
        if (numberFollows()) {
            int number = number(0, 999);
            return (at, person) -> number;
        }
        Number part = switch (here()) {
            case "who" -> (at, person) -> person;
            case "hour" -> (at, person) -> at.hour;
            case "hook" -> (at, person) -> at.people.get(person).ticket == NONE ? 99 : at.people.get(person).ticket;
            case "marks" -> TwinText::marksOf;
            case "hung" -> (at, person) -> (int) at.hooks.stream().filter(face -> face != NONE).count();
            case "free" -> (at, person) -> (int) at.hooks.stream().filter(face -> face == NONE).count();
            default -> null;
        };
        must(part != null);
        next++;
        return part;
    }

    private static int faceOf(Twin.Carnival at, int person) {
        Twin.Person one = at.people.get(person);
        if (one.wears != NONE) {
            return one.wears;
        }
        return one.ticket == NONE ? NONE : at.hooks.get(one.ticket);
    }

    private static int marksOf(Twin.Carnival at, int person) {
        int face = faceOf(at, person);
        return face == NONE ? 0 : at.people.get(face).face.size();
    }
}
