import java.util.ArrayList;
import java.util.List;
import java.util.Random;
import java.util.regex.Matcher;
import java.util.regex.Pattern;

/** Random texts of THE DOOR, right and spoilt ones, against an own reading of them. */
public final class DoorTest {
    private static final int NONE = HungFaces.NONE;
    private static final Random RANDOM = new Random(12345);
    private static final String[] THINGS = {"person", "wish", "wed", "knows", "hooks", "mix", "thief", ";", "10010000",
        "0", "1", "2", "007", "9", "10", "12", "13", "100", "101", "0001", "x", "#", "00000002", "hand"};

    public static void main(String[] args) {
        for (int i = 0; i < 700; i++) {
            carnival();
        }
        Check.close();
    }

    /** What THE DOOR tells, told again in the plainest way. */
    private static final class Model {
        final List<String> faces = new ArrayList<>();
        final List<String> masks = new ArrayList<>();
        final List<List<Integer>> dearest = new ArrayList<>();
        final List<Integer> known = new ArrayList<>();
        final List<Integer> spouses = new ArrayList<>();
        int hooks = 6;
        int mix;
        int thief;
        int texts;
        int leastHooks = 1;

        Model copy() {
            Model other = new Model();
            other.faces.addAll(faces);
            other.masks.addAll(masks);
            for (List<Integer> wish : dearest) {
                other.dearest.add(new ArrayList<>(wish));
            }
            other.known.addAll(known);
            other.spouses.addAll(spouses);
            other.hooks = hooks;
            other.mix = mix;
            other.thief = thief;
            other.texts = texts;
            other.leastHooks = leastHooks;
            return other;
        }

        int wish(int one, int k) {
            List<Integer> all = new ArrayList<>(dearest.get(one));
            for (int face = 0; face < faces.size(); face++) {
                if (!all.contains(face)) {
                    all.add(face);
                }
            }
            return k < all.size() ? all.get(k) : NONE;
        }
    }

    /** Reads a text thing by thing; the first wrong byte, or NONE, and what it tells into the model. */
    private static final class Reading {
        final List<String> things = new ArrayList<>();
        final List<Integer> begins = new ArrayList<>();
        final Model told;
        int at;

        Reading(String text, Model told) {
            this.told = told;
            Matcher matcher = Pattern.compile("[a-z]+|[0-9]+|[^ ]").matcher(text);
            while (matcher.find()) {
                things.add(matcher.group());
                begins.add(matcher.start());
            }
            things.add("");
            begins.add(text.length());
        }

        int firstWrong() {
            if (things.size() == 1) {
                return NONE;
            }
            for (int lines = 1; lines <= 15; lines++) {
                if (lines == 15 || !line()) {
                    return begins.get(at);
                }
                if (things.get(at).isEmpty()) {
                    return NONE;
                }
                if (!things.get(at).equals(";")) {
                    return begins.get(at);
                }
                at++;
            }
            return begins.get(at);
        }

        private boolean line() {
            String word = things.get(at);
            boolean tooMany = word.equals("person") && told.faces.size() == 10;
            if (tooMany || !List.of("person", "wish", "wed", "knows", "hooks", "mix", "thief").contains(word)) {
                return false;
            }
            at++;
            switch (word) {
                case "person": return person();
                case "wish": return wish();
                case "wed": return wed();
                case "knows": return knows();
                default: return setting(word);
            }
        }

        private int number() {
            return things.get(at).matches("[0-9]{1,3}") ? Integer.parseInt(things.get(at)) : 1000;
        }

        private boolean isPerson() {
            return number() < told.faces.size();
        }

        private boolean person() {
            for (int i = 0; i < 2; i++) {
                if (!things.get(at + i).matches("[01]{8}")) {
                    at += i;
                    return false;
                }
            }
            told.faces.add(things.get(at));
            told.masks.add(things.get(at + 1));
            told.dearest.add(new ArrayList<>());
            told.known.add(0);
            told.spouses.add(NONE);
            at += 2;
            return true;
        }

        private boolean wish() {
            if (!isPerson()) {
                return false;
            }
            int who = number();
            at++;
            List<Integer> first = new ArrayList<>();
            do {
                if (!isPerson() || first.contains(number())) {
                    return false;
                }
                first.add(number());
                at++;
            } while (things.get(at).matches("[0-9]+"));
            told.dearest.set(who, first);
            return true;
        }

        private boolean wed() {
            if (!isPerson() || told.spouses.get(number()) != NONE) {
                return false;
            }
            int one = number();
            at++;
            if (!isPerson() || number() == one || told.spouses.get(number()) != NONE) {
                return false;
            }
            told.spouses.set(one, number());
            told.spouses.set(number(), one);
            at++;
            return true;
        }

        private boolean knows() {
            if (!isPerson()) {
                return false;
            }
            int who = number();
            at++;
            do {
                if (!isPerson() || number() == who) {
                    return false;
                }
                told.known.set(who, told.known.get(who) | 1 << number());
                at++;
            } while (things.get(at).matches("[0-9]+"));
            return true;
        }

        private boolean setting(String word) {
            int number = number();
            int least = word.equals("hooks") ? told.leastHooks : 0;
            if (number < least || number > (word.equals("hooks") ? 12 : 100)) {
                return false;
            }
            told.hooks = word.equals("hooks") ? number : told.hooks;
            told.mix = word.equals("mix") ? number : told.mix;
            told.thief = word.equals("thief") ? number : told.thief;
            at++;
            return true;
        }
    }

    private static String someLine(int people) {
        int one = RANDOM.nextInt(Math.max(1, people + (RANDOM.nextInt(12) == 0 ? 1 : 0)));
        int other = RANDOM.nextInt(Math.max(1, people));
        switch (RANDOM.nextInt(9)) {
            case 0:
            case 1:
            case 2: return "person " + Check.figures(RANDOM.nextInt(256)) + " " + Check.figures(RANDOM.nextInt(256));
            case 3: return "wish " + one + " " + other + (one == other ? "" : " " + one);
            case 4: return "wed " + one + " " + other;
            case 5: return "knows " + one + " " + other + (RANDOM.nextBoolean() ? "" : " " + other);
            case 6: return "hooks " + (1 + RANDOM.nextInt(13));
            case 7: return "mix " + RANDOM.nextInt(103);
            default: return "thief " + RANDOM.nextInt(103);
        }
    }

    private static String someText(int people) {
        StringBuilder text = new StringBuilder();
        int lines = RANDOM.nextInt(RANDOM.nextInt(8) == 0 ? 18 : 5);
        for (int i = 0; i < lines; i++) {
            text.append(i == 0 ? "" : RANDOM.nextInt(4) == 0 ? " ; " : ";").append(someLine(people));
        }
        int changes = RANDOM.nextInt(3) == 0 ? 1 + RANDOM.nextInt(2) : 0;
        for (int i = 0; i < changes; i++) {
            int at = RANDOM.nextInt(text.length() + 1);
            if (RANDOM.nextBoolean()) {
                text.insert(at, THINGS[RANDOM.nextInt(THINGS.length)] + (RANDOM.nextBoolean() ? " " : ""));
            } else {
                text.delete(at, Math.min(text.length(), at + 1 + RANDOM.nextInt(3)));
            }
        }
        return text.substring(0, Math.min(400, text.length()));
    }

    /** Hangs and steals something, so that some HOOKS are taken; the least number of HOOKS that may be told. */
    private static int act(HungFaces x) {
        int people = x.count(0);
        for (int i = 0; i < 3 && people > 0; i++) {
            int one = RANDOM.nextInt(people);
            int hook = RANDOM.nextInt(x.count(1));
            if (RANDOM.nextInt(4) > 0) {
                Check.thrownBy(() -> x.hand(one, hook));
            }
            Check.thrownBy(() -> RANDOM.nextBoolean() ? x.steal(one, hook) : x.fetch(one));
        }
        int least = 1;
        for (int hook = 0; hook < x.count(1); hook++) {
            least = x.hook(hook) == NONE ? least : hook + 1;
        }
        for (int one = 0; one < people; one++) {
            least = Math.max(least, x.person(one, 2) + 1);
        }
        return least;
    }

    private static void carnival() {
        HungFaces x = new HungFaces();
        Model now = new Model();
        for (int i = 0; i < 16; i++) {
            now.leastHooks = act(x);
            String text = someText(now.faces.size());
            Model then = now.copy();
            int wrong = new Reading(text, then).firstWrong();
            String thrown = wrong != NONE ? Check.ARGUMENT : now.texts == 12 ? Check.UNSUPPORTED : "";
            Check.tape(x, text);
            Check.throwsDue("door '" + text + "'", thrown, x::door);
            Check.due("fault of '" + text + "'", x.fault(), wrong);
            if (thrown.isEmpty()) {
                now = then;
                now.texts++;
            }
            same(x, now, text);
        }
    }

    private static void same(HungFaces x, Model now, String text) {
        int[] counts = {now.faces.size(), now.hooks, now.texts, now.mix, now.thief};
        int[] whats = {0, 1, 3, 6, 7};
        for (int i = 0; i < whats.length; i++) {
            Check.due("count " + whats[i] + " by '" + text + "'", x.count(whats[i]), counts[i]);
        }
        for (int one = 0; one < Math.min(now.faces.size(), x.count(0)); one++) {
            Check.due("FACE", Check.figures(x.face(one, 0)), now.faces.get(one));
            Check.due("MASK", Check.figures(x.person(one, 0)), now.masks.get(one));
            Check.due("SPOUSE by '" + text + "'", x.person(one, 3), now.spouses.get(one));
            Check.due("KNOWS by '" + text + "'", x.person(one, 4), now.known.get(one));
            for (int k = 0; k <= now.faces.size(); k++) {
                Check.due("WISH by '" + text + "'", x.wish(one, k), now.wish(one, k));
            }
        }
    }
}
