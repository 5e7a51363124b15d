/** A test for each sentence that names an edge: THE LOG, SEED, UNDONE, THE IMAGE, count: promises 45 to 50. */
public final class SentencesOfKeptTest {
    private static final int NONE = HungFaces.NONE;
    private static final int MOST = Integer.MAX_VALUE;
    private static final int LEAST = Integer.MIN_VALUE;

    public static void main(String[] args) {
        calls();
        undone();
        forgotten();
        theImage();
        log();
        seed();
        undo();
        image();
        back();
        count();
        Check.promisesSeen(45, 50);
        Check.close();
    }

    /** All of it that UNDONE and THE IMAGE go back to: without the ACTS that can be undone, which come twelfth. */
    private static String seen(HungFaces x) {
        String[] parts = Check.seen(x).split(" ", 13);
        parts[11] = "";
        return String.join(" ", parts);
    }

    private static void calls() {
        Check.sentence("What it is", "An object is used for at most 512 calls after it has been made");
        HungFaces x = Check.crowd(10);
        Check.law(x, "hand;fetch");
        // 512 calls of the dearest kind find their room and their end.
        for (int i = 0; i < 512; i++) {
            x.span(30, i % 2 == 0);
        }
        Check.due("after 512 calls", x.count(5), 0);
        for (int i = 0; i < 512; i++) {
            x.hours(50);
        }
        Check.due("HOUR after 512 calls", x.count(5), 25600);
        Check.due("THE LOG's HOUR", x.log(0, 0), 25599);
    }

    private static void undone() {
        Check.sentence("Terms", "UNDONE: the latest ACT not undone yet (12 are remembered; HOURS of one call are one):"
                + " all is as ahead of it (but for the TAPE, fault(), THE IMAGE).");
        HungFaces x = Check.crowd(5);
        Check.door(x, "mix 70;thief 60;hooks 12;knows 0 1");
        Check.law(x, "hand if who>2;fetch if hour>3");
        x.hand(4, 11);
        Check.Call[] acts = {
            () -> x.hand(0, 0), () -> x.hand(1, 3), () -> x.mix(0, 4), () -> x.steal(1, 11), () -> x.fetch(4),
            () -> x.change(1, 2), () -> x.shave(3, 1), () -> x.graft(2, 1, 1), () -> x.meet(2, 0), () -> x.hours(1),
            () -> x.hours(50), () -> x.meet(0, 1),
        };
        String[] ahead = new String[acts.length];
        for (int i = 0; i < acts.length; i++) {
            ahead[i] = seen(x);
            acts[i].make();
            Check.due("ACT " + i + " can be undone", x.count(11), Math.min(12, i + 2));
        }
        for (int i = acts.length - 1; i >= 0; i--) {
            Check.due("ACT " + i + " is not nothing", seen(x).equals(ahead[i]), false);
            Check.due("undone", x.undo(), true);
            Check.due("as ahead of ACT " + i, seen(x), ahead[i]);
            Check.due("left to be undone", x.count(11), i);
        }
        Check.due("the 13th was forgotten", x.undo(), false);
        Check.due("it stays done", x.hook(11), 4);
        HungFaces y = Check.crowd(3);
        y.hand(0, 0);
        y.hand(1, 1);
        y.undo();
        y.hand(2, 2);
        y.undo();
        Check.due("the latest not undone yet", y.undo(), true);
        Check.due("none are left", y.undo(), false);
        Check.due("all have their own", y.swaps(), 0);
        Check.due("no rows", y.count(10), 0);
        HungFaces z = Check.crowd(2);
        z.hand(0, 0);
        z.image();
        z.fetch(0);
        z.feed(1, 2, 3, 4, 5);
        Check.throwsDue("a wrong text", Check.ARGUMENT, z::door);
        z.feed(1, 2, 3, 4, 5);
        Check.due("undone", z.undo() && z.undo(), true);
        Check.due("the TAPE stays", z.end(20) && !z.end(21), true);
        Check.due("fault() stays", z.fault(), 0);
        Check.due("THE IMAGE stays", z.back(), true);
        Check.due("as it was kept", z.hook(0), 0);
        HungFaces round = Check.crowd(2);
        for (int i = 0; i < 30; i++) {
            round.change(0, 1);
            round.change(0, 1);
            round.undo();
            Check.due("round and round", round.count(11), Math.min(11, i + 1));
            Check.due("round and round", round.person(0, 1), (i + 1) % 2);
        }
        for (int i = 10; i >= 0; i--) {
            Check.due("undone", round.undo(), true);
            Check.due("round and back", round.person(0, 1), (i + 19) % 2);
        }
        Check.due("no more", round.undo(), false);
    }

    private static void forgotten() {
        Check.sentence("Terms", "A text, going back: none are remembered.");
        HungFaces x = Check.crowd(2);
        x.hand(0, 0);
        Check.rightDoor(x, "");
        Check.due("a text of THE DOOR", x.count(11), 0);
        Check.due("nothing to undo", x.undo(), false);
        Check.due("it stays done", x.hook(0), 0);
        x.fetch(0);
        Check.rightLaw(x, "", 0);
        Check.due("a text of THE LAW", x.undo(), false);
        x.image();
        x.hand(0, 1);
        x.back();
        Check.due("going back", x.undo(), false);
        x.hand(0, 2);
        Check.wrongDoor(x, "x", 0);
        Check.wrongLaw(x, "x", 0);
        Check.throwsDue("no SAID", Check.INDEX, () -> x.fits(5));
        Check.due("no text is read in vain", x.count(11), 1);
        HungFaces none = Check.crowd(2);
        none.hand(0, 0);
        Check.due("no IMAGE", none.back(), false);
        Check.due("so nothing was forgotten", none.undo(), true);
        HungFaces full = Check.crowd(2);
        for (int i = 1; i < 12; i++) {
            full.door();
        }
        full.hand(0, 0);
        Check.throwsDue("a 13th text", Check.UNSUPPORTED, full::door);
        Check.due("what throws forgets nothing", full.undo(), true);
    }

    private static void theImage() {
        Check.sentence("Terms", "THE IMAGE (one) of all may be kept, and gone back to (but for the TAPE, fault() and"
                + " THE IMAGE itself).");
        HungFaces x = Check.crowd(4);
        Check.door(x, "mix 5;thief 6;hooks 7;wed 0 1;wish 2 3;knows 3 0");
        Check.law(x, "hand if hour<3;fetch");
        x.hours(3);
        x.meet(0, 2);
        x.seed(-77);
        String kept = seen(x);
        x.image();
        Check.rightDoor(x, "person 11111111 11111111;mix 9;thief 9;hooks 12;wed 2 3;wish 2 0;knows 3 1 4");
        Check.rightLaw(x, "", 0);
        x.hand(4, 11);
        x.meet(1, 4);
        x.hours(9);
        x.shave(3, 0);
        x.seed(4);
        Check.wrongDoor(x, "mix 5x", 5);
        x.feed(0, 0, 0, 0, 0);
        Check.due("back", x.back(), true);
        Check.due("all is as kept", seen(x), kept);
        Check.due("LINES of THE LAW", x.count(4), 2);
        Check.due("SEED", x.seed(-77), -77);
        Check.due("fault() stays", x.fault(), 5);
        Check.due("the TAPE stays", x.end(20) && !x.end(21), true);
        x.end(0);
        x.hours(20);
        Check.due("THE IMAGE itself stays", x.back(), true);
        Check.due("all is as kept, again", seen(x), kept);
        x.hours(1);
        String later = seen(x);
        x.image();
        x.hours(1);
        Check.due("back", x.back(), true);
        Check.due("one IMAGE: the later one", seen(x), later);
        HungFaces texts = Check.crowd(1);
        texts.image();
        for (int i = 1; i < 12; i++) {
            texts.door();
        }
        texts.back();
        Check.due("as many texts as there were", texts.count(3), 1);
        Check.rightDoor(texts, "mix 3");
    }

    private static void log() {
        Check.sentence("Promise 45", "THE LOG so many ago (0 the latest) what 0 HOUR, 1 PERSON, 2 HOOK, 3 FACE (NONE),"
                + " 4 which; - 99 without.");
        HungFaces x = Check.crowd(10);
        Check.door(x, "hooks 12");
        for (int what = 0; what < 5; what++) {
            Check.due("no row, what " + what, x.log(0, what), -99);
        }
        x.hours(2);
        x.hand(9, 11);
        x.hand(8, 0);
        x.steal(8, 11);
        x.fetch(9);
        int[][] rows = {{2, 9, 11, NONE, 1}, {2, 8, 11, 9, 2}, {2, 8, 0, 8, 0}, {2, 9, 11, 9, 0}};
        for (int ago = 0; ago < rows.length; ago++) {
            for (int what = 0; what < 5; what++) {
                Check.due(ago + " ago, what " + what, x.log(ago, what), rows[ago][what]);
            }
        }
        int[] none = {4, 59, 60, 61, MOST, -1, LEAST};
        for (int ago : none) {
            for (int what = 0; what < 5; what++) {
                Check.due(ago + " ago, what " + what, x.log(ago, what), -99);
            }
        }
        Check.sentence("Promise 45", "NoSuchElementException: another what.");
        int[] others = {-1, 5, 6, MOST, LEAST};
        for (int what : others) {
            Check.refused(x, "what " + what, Check.NO_ELEMENT, () -> x.log(0, what));
            Check.refused(x, "what " + what + " without a row", Check.NO_ELEMENT, () -> x.log(60, what));
            Check.refused(x, "what " + what + " -1 ago", Check.NO_ELEMENT, () -> x.log(-1, what));
        }
        HungFaces full = Check.crowd(2);
        full.hand(0, 0);
        full.hand(1, 1);
        for (int i = 0; i < 29; i++) {
            full.mix(0, 1);
        }
        Check.due("60 rows", full.log(59, 4), 0);
        Check.due("the 60th is the first of all", full.log(59, 1), 0);
        full.mix(0, 1);
        Check.due("two rows go out", full.log(59, 4), 3);
        Check.due("the lesser PERSON first", full.log(59, 1), 0);
        Check.due("no 61st", full.log(60, 4), -99);
    }

    private static void seed() {
        Check.sentence("Promise 46", "SEED: what it was.");
        HungFaces x = Check.crowd(2);
        int[] seeds = {MOST, LEAST, 0, -1, 1, 65536};
        int before = 1;
        for (int seed : seeds) {
            Check.due("what it was", x.seed(seed), before);
            before = seed;
        }
        Check.due("no ACT", x.undo(), false);
        x.seed(7);
        x.hours(1);
        x.seed(8);
        x.undo();
        Check.due("as ahead of the ACT", x.seed(1), 7);
        HungFaces y = Check.crowd(2);
        Check.rightDoor(y, "mix 50");
        Check.rightLaw(y, "hand", 1);
        Check.due("a text draws nothing", y.seed(1), 1);
        y.hand(0, 0);
        y.trial(5);
        y.span(5, true);
        Check.due("nor does an ACT but HOURS, nor a TRIAL", y.seed(1), 1);
    }

    private static void undo() {
        Check.sentence("Promise 47", "UNDONE: whether there was one.");
        HungFaces x = new HungFaces();
        Check.due("nothing was done", x.undo(), false);
        x.hours(1);
        Check.due("HOURS of nobody", x.undo(), true);
        Check.due("HOUR 0", x.count(5), 0);
        Check.due("SEED 1", x.seed(1), 1);
        Check.due("no more", x.undo(), false);
        for (int i = 0; i < 12; i++) {
            x.hours(1);
        }
        for (int i = 0; i < 12; i++) {
            Check.due("twelve", x.undo(), true);
        }
        Check.due("twelve were all", x.count(5), 0);
        Check.due("no 13th", x.undo(), false);
        for (int i = 0; i < 13; i++) {
            x.hours(1);
        }
        for (int i = 0; i < 12; i++) {
            Check.due("twelve of 13", x.undo(), true);
        }
        Check.due("no 13th", x.undo(), false);
        Check.due("the first of 13 stays", x.count(5), 1);
        HungFaces y = Check.crowd(2);
        Check.throwsDue("what throws", Check.STATE, () -> y.fetch(0));
        Check.throwsDue("what throws", Check.ARGUMENT, () -> y.hours(0));
        Check.due("is no ACT", y.undo(), false);
        y.seed(3);
        y.image();
        y.trial(3);
        y.hears(0, 3);
        y.clash();
        Check.due("nor is what asks", y.undo(), false);
        y.meet(0, 1);
        y.meet(0, 1);
        Check.due("a MEETING by which nothing changes is one", y.undo() && y.person(0, 4) == 2, true);
    }

    private static void image() {
        Check.sentence("Promise 48", "THE IMAGE is kept.");
        HungFaces x = Check.crowd(3);
        x.hand(0, 0);
        String before = Check.seen(x);
        x.image();
        Check.due("nothing changes by it", Check.seen(x).equals(before), true);
        Check.due("the ACT can be undone", x.undo(), true);
        Check.due("back", x.back(), true);
        Check.due("HANDED in", x.hook(0), 0);
        HungFaces empty = new HungFaces();
        empty.image();
        Check.rightDoor(empty, "person 10000000 00000000;hooks 12");
        Check.due("back to nobody", empty.back(), true);
        Check.due("nobody", empty.count(0), 0);
        Check.due("six HOOKS", empty.count(1), 6);
        Check.due("no text", empty.count(3), 0);
        Check.rightDoor(empty, "person 01000000 10000000");
        Check.due("who comes is new", empty.person(0, 2), NONE);
        Check.due("a FACE of its own", empty.face(0, 0), 2);
    }

    private static void back() {
        Check.sentence("Promise 49",
                "One goes back to THE IMAGE: true; false, and nothing happens, if none was kept.");
        HungFaces x = Check.crowd(3);
        x.hand(0, 0);
        x.feed(1, 2, 3, 4, 5);
        String before = Check.seen(x);
        Check.due("none was kept", x.back(), false);
        Check.due("nothing happens", Check.seen(x).equals(before), true);
        Check.due("the TAPE is there", x.end(20), true);
        Check.due("the ACT can be undone", x.undo(), true);
        x.image();
        Check.due("kept", x.back(), true);
        Check.due("again", x.back(), true);
        HungFaces people = Check.crowd(2);
        people.image();
        Check.rightDoor(people, "person 11111111 11111111;knows 2 0;wed 2 1;wish 2 2");
        people.meet(2, 0);
        people.hand(2, 3);
        people.back();
        Check.refused(people, "who came later is gone", Check.INDEX, () -> people.person(2, 0));
        Check.due("and known no more", people.person(0, 4), 0);
        Check.rightDoor(people, "person 00000000 00000000");
        int[] anew = {0, 2, NONE, NONE, 0, 4};
        for (int what = 0; what < anew.length; what++) {
            Check.due("who comes then is new, " + what, people.person(2, what), anew[what]);
        }
        Check.due("THINKS nothing", people.thinks(2, 0), 0);
        Check.due("nothing is THOUGHT of that one", people.thinks(0, 2), 0);
        Check.due("WISHES by numbers", people.wish(2, 0), 0);
        Check.due("the HOOK is free", people.hook(3), NONE);
    }

    private static void count() {
        Check.sentence("Promise 50", "0 PEOPLE, 1 HOOKS, 2 FACES that hang, 3 texts of THE DOOR, 4 LINES of THE LAW"
                + " (NONE without one), 5 HOUR, 6 MIX, 7 THIEF, 8 who has a TICKET, as bits, 9 MARKS of all FACES"
                + " together, 10 rows of THE LOG, 11 acts that can be UNDONE.");
        HungFaces x = Check.opened("person 11111111 00000000;person 00000001 11111111;person 00000000 11111111;"
                + "hooks 8;mix 3;thief 4");
        int[] first = {3, 8, 0, 1, NONE, 0, 3, 4, 0, 9, 0, 0};
        for (int what = 0; what < first.length; what++) {
            Check.due("count " + what, x.count(what), first[what]);
        }
        Check.rightLaw(x, "hand if who>4;fetch if who>4", 2);
        x.seed(12345);
        x.hours(2);
        x.hand(0, 7);
        x.hand(2, 0);
        x.steal(2, 7);
        x.shave(0, 2);
        int[] then = {3, 8, 1, 1, 2, 2, 3, 4, 5, 8, 3, 5};
        for (int what = 0; what < then.length; what++) {
            Check.due("count " + what + " then", x.count(what), then[what]);
        }
        Check.rightLaw(x, "", 0);
        Check.due("no LINES, but a text", x.count(4), 0);
        HungFaces full = Check.opened("person 11111111 00000000;person 11111111 00000000;person 11111111 00000000;"
                + "person 11111111 00000000;person 11111111 00000000;person 11111111 00000000;"
                + "person 11111111 00000000;person 11111111 00000000;person 11111111 00000000;"
                + "person 11111111 00000000;hooks 12");
        for (int one = 0; one < 10; one++) {
            full.hand(one, one + 2);
        }
        Check.due("ten hang", full.count(2), 10);
        Check.due("ten TICKETS", full.count(8), 1023);
        Check.due("80 MARKS", full.count(9), 80);
        Check.sentence("Promise 50", "NONE for another what.");
        int[] others = {-1, 12, 13, 100, MOST, LEAST};
        for (int what : others) {
            Check.due("count " + what, x.count(what), NONE);
        }
    }
}
