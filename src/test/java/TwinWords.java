import java.util.Random;

/** Random texts of THE DOOR and of THE LAW, mostly right ones, and what may be SAID. */
final class TwinWords {
    private TwinWords() {
    }

    private static String figures(Random random) {
        return Check.figures(random.nextInt(256) & (random.nextBoolean() ? 255 : 7));
    }

    private static String blanks(Random random) {
        return " ".repeat(random.nextInt(8) == 0 ? random.nextInt(3) : 1);
    }

    static String people(Random random) {
        StringBuilder text = new StringBuilder();
        int many = random.nextInt(11);
        for (int i = 0; i < many; i++) {
            text.append(i == 0 ? "" : ";").append("person ").append(figures(random));
            text.append(' ').append(figures(random));
        }
        return text.toString();
    }

    static String door(Random random, int people) {
        StringBuilder text = new StringBuilder();
        int lines = random.nextInt(12) == 0 ? 13 + random.nextInt(3) : random.nextInt(7);
        int many = people;
        for (int i = 0; i < lines; i++) {
            text.append(i == 0 ? "" : ";").append(random.nextInt(6) == 0 ? " " : "");
            int kind = random.nextInt(lines > 9 ? 6 : 8);
            many += kind == 6 ? 1 : 0;
            text.append(doorLine(random, kind, many));
        }
        return filled(random, spoilt(random, text.toString()));
    }

    private static String doorLine(Random random, int kind, int people) {
        switch (kind) {
            case 0:
                return "hooks" + blanks(random) + (random.nextInt(14) == 0 ? 0 : 1 + random.nextInt(12));
            case 1:
                return "mix" + blanks(random) + random.nextInt(103);
            case 2:
                return "thief" + blanks(random) + random.nextInt(103);
            case 3:
                return "wed " + person(random, people) + " " + person(random, people);
            case 4:
                return "knows " + persons(random, people, 1 + random.nextInt(4));
            case 5:
            case 7:
                return "wish " + persons(random, people, 1 + random.nextInt(3));
            default:
                return "person" + blanks(random) + figures(random) + " " + figures(random);
        }
    }

    private static String person(Random random, int people) {
        int number = random.nextInt(Math.max(1, people) + (random.nextInt(20) == 0 ? 2 : 0));
        return random.nextInt(20) == 0 ? "00" + number : "" + number;
    }

    private static String persons(Random random, int people, int more) {
        StringBuilder text = new StringBuilder(person(random, people));
        for (int i = 0; i < more; i++) {
            text.append(" ").append(blanks(random)).append(person(random, people));
        }
        return text.toString();
    }

    static String law(Random random) {
        StringBuilder text = new StringBuilder();
        int lines = random.nextInt(20) == 0 ? 11 + random.nextInt(3) : random.nextInt(4);
        for (int i = 0; i < lines; i++) {
            text.append(i == 0 ? "" : ";").append(random.nextBoolean() ? "hand" : "fetch");
            if (random.nextInt(5) > 0) {
                text.append(" if ").append(condition(random, lines > 9 ? 9 : 0));
            }
        }
        return filled(random, spoilt(random, text.toString()));
    }

    private static String condition(Random random, int deep) {
        StringBuilder text = new StringBuilder(atom(random, deep));
        while (random.nextInt(3) == 0) {
            text.append(random.nextBoolean() ? " and " : " or ").append(atom(random, deep));
        }
        return text.toString();
    }

    private static String atom(Random random, int deep) {
        int kind = random.nextInt(deep > 7 ? 5 : 10);
        if (kind == 0) {
            return "own";
        }
        if (kind == 1) {
            return "wed";
        }
        if (kind < 7) {
            String sum = part(random) + (random.nextInt(3) == 0 ? "+" + part(random) : "");
            return sum + (random.nextBoolean() ? "<" : " > ") + part(random);
        }
        if (kind < 9) {
            return "not " + (random.nextInt(4) == 0 ? "not not " : "") + atom(random, deep + 1);
        }
        return "(" + condition(random, deep + 1) + ")";
    }

    private static String part(Random random) {
        String[] parts = {"who", "hour", "hook", "marks", "hung", "free"};
        int kind = random.nextInt(12);
        return kind < 6 ? parts[kind] : "" + random.nextInt(kind == 6 ? 1100 : 7);
    }

    /** Now and then blanks fill the whole TAPE, or more than it takes. */
    static String filled(Random random, String text) {
        int kind = random.nextInt(30);
        String blanks = " ".repeat(kind == 0 ? 421 : 400);
        if (kind > 2 || text.isEmpty()) {
            return text;
        }
        int at = text.indexOf(';') + 1;
        return text.substring(0, at) + blanks.substring(Math.min(text.length(), 400)) + text.substring(at);
    }

    /** Now and then a byte is put in, taken out or another one, or all behind some byte is gone. */
    private static String spoilt(Random random, String text) {
        String few = text.substring(0, Math.min(text.length(), 400));
        if (few.isEmpty() || random.nextInt(4) > 0) {
            return few;
        }
        String signs = " ;()<>+09az" + (char) random.nextInt(256);
        String sign = "" + signs.charAt(random.nextInt(signs.length()));
        int at = random.nextInt(few.length());
        int kind = random.nextInt(4);
        String behind = kind == 3 ? "" : few.substring(kind == 0 ? at : at + 1);
        String all = few.substring(0, at) + (kind < 2 ? sign : "") + behind;
        return all.substring(0, Math.min(all.length(), 400));
    }

    /** A FACE that only few can have is the hardest to give. */
    private static String allButSomeAreNot(Random random, int people) {
        StringBuilder text = new StringBuilder();
        int face = random.nextInt(Math.max(1, people));
        for (int one = 0; one < people; one++) {
            if (random.nextInt(Math.max(1, people)) > 0) {
                text.append((char) one).append((char) face).append((char) 0);
            }
        }
        return text.toString();
    }

    static String said(Random random, int people) {
        StringBuilder text = new StringBuilder();
        int many = random.nextInt(random.nextInt(4) == 0 ? 14 : 7);
        if (random.nextInt(8) == 0) {
            return allButSomeAreNot(random, people);
        }
        int of = random.nextBoolean() ? people : Math.min(people, 1 + random.nextInt(4));
        for (int i = 0; i < many; i++) {
            text.append((char) random.nextInt(Math.max(1, of)));
            text.append((char) random.nextInt(Math.max(1, people)));
            text.append((char) (random.nextInt(4) == 0 ? 1 : 0));
        }
        int spoilt = random.nextInt(60);
        if (spoilt < 5) {
            text.append((char) random.nextInt(256));
        } else if (spoilt < 15 && many > 0) {
            // The least PERSON, FACE or third byte that is none.
            int at = random.nextInt(text.length());
            text.setCharAt(at, (char) (at % 3 == 2 ? 2 : people));
        }
        return text.toString();
    }
}
