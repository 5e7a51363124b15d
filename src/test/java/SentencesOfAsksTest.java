/** A test for each sentence that names an edge: what is asked (Terms, part 3), promises 21 to 44. */
public final class SentencesOfAsksTest {
    private static final int NONE = HungFaces.NONE;
    private static final int MOST = Integer.MAX_VALUE;
    private static final int LEAST = Integer.MIN_VALUE;

    public static void main(String[] args) {
        wrong();
        lostAndUnclaimed();
        rings();
        swaps();
        saved();
        marks();
        unknown();
        passes();
        core();
        block();
        fits();
        ask();
        clash();
        queue();
        forged();
        ways();
        talkAndRow();
        chain();
        hears();
        trial();
        span();
        led();
        Check.promisesSeen(21, 44);
        Check.close();
    }

    private interface Of {
        long make(int number);
    }

    private static void refusedOf(HungFaces x, String what, String want, int[] numbers, Of call) {
        for (int number : numbers) {
            Check.refused(x, what + " " + number, want, () -> call.make(number));
        }
    }

    private static HungFaces told(int people, String door) {
        return Check.door(Check.crowd(people), door);
    }

    private static void wrong() {
        Check.sentence("Terms", "WRONG: PEOPLE who WEAR another one's FACE.");
        HungFaces x = Check.crowd(10);
        Check.due("nobody", x.wrong(), 0);
        x.change(0, 9);
        Check.due("the first and the last", x.wrong(), 513);
        x.hand(9, 0);
        Check.due("who WEARS none is not", x.wrong(), 1);
        x.fetch(9);
        Check.due("FETCHED, it is another one's still", x.wrong(), 513);
        Check.sentence("Promise 21", "WRONG, as bits.");
        HungFaces all = Check.crowd(10);
        for (int one = 0; one < 10; one += 2) {
            all.change(one, one + 1);
        }
        Check.due("all", all.wrong(), 1023);
        HungFaces alike = Check.opened("person 10000000 00000000;person 10000000 00000000");
        alike.change(0, 1);
        Check.due("ALIKE, but another one's", alike.wrong(), 3);
        Check.due("of nobody", new HungFaces().wrong(), 0);
    }

    private static void lostAndUnclaimed() {
        Check.sentence("Terms", "LOST: FACES that nobody WEARS and that do not hang.");
        HungFaces x = Check.crowd(3);
        x.hand(0, 0);
        Check.due("what hangs is not", x.lost(), 0);
        x.hand(1, 1);
        x.steal(1, 0);
        Check.due("what was STOLEN is not", x.lost(), 0);
        x.fetch(0);
        Check.due("what was not there to be FETCHED is not", x.lost(), 0);
        Check.sentence("Promise 22", "LOST, as bits.");
        Check.due("of nobody", new HungFaces().lost(), 0);
        Check.due("of ten", Check.crowd(10).lost(), 0);
        Check.sentence("Terms", "UNCLAIMED: FACES that hang on a HOOK of which nobody has the TICKET.");
        Check.due("1 has the TICKET of what hangs", x.unclaimed(), 0);
        x.hand(2, 5);
        x.mix(1, 2);
        Check.due("changed TICKETS claim all the same", x.unclaimed(), 0);
        Check.due("a free HOOK without a TICKET is no FACE", x.hook(3), NONE);
        Check.sentence("Promise 23", "UNCLAIMED, as bits.");
        HungFaces y = Check.crowd(3);
        y.hand(0, 0);
        y.hand(1, 1);
        y.steal(1, 0);
        y.hand(2, 0);
        Check.due("two TICKETS of one HOOK", y.unclaimed(), 0);
        y.fetch(0);
        Check.due("the HOOK is free, and its other TICKET out", y.unclaimed(), 0);
        Check.due("of nobody", new HungFaces().unclaimed(), 0);
    }

    private static void rings() {
        Check.sentence("Terms", "ALIKE: FACES of the same MARKS as one.");
        HungFaces alike = Check.opened("person 10000001 11111111;person 10000001 00000000;person 10000000 11111111");
        Check.due("the same, whatever the MASK", alike.face(0, 3), 2);
        Check.due("fewer MARKS are not the same", alike.face(2, 3), 0);
        alike.shave(1, 7);
        Check.due("SHAVED to the same", alike.face(2, 3), 2);
        Check.due("no more", alike.face(0, 3), 0);
        Check.sentence("Terms", "RING of a PERSON: all to whom one comes by going on to the PERSON who WEARS one's"
                + " FACE, that one's FACE, .. (oneself, too), as bits.");
        HungFaces x = Check.crowd(10);
        Check.due("oneself", x.person(9, 5), 512);
        for (int one = 0; one < 9; one++) {
            x.change(one, one + 1);
        }
        for (int one = 0; one < 10; one++) {
            Check.due("all ten, from " + one, x.person(one, 5), 1023);
        }
        // 0 WEARS 1, 1 WEARS 2, .. 9 WEARS 0: of 9's FACE on, 8, 7, .. 0, then 9 again.
        x.hand(4, 0);
        Check.due("5, whose FACE hangs", x.person(5, 5), 32);
        Check.due("6, whose FACE 5 WEARS", x.person(6, 5), 96);
        Check.due("4, from whom all others come", x.person(4, 5), 1023);
    }

    private static void swaps() {
        Check.sentence("Terms", "SWAPS: a swap exchanges what two of all PEOPLE and HOOKS have (one of these may have"
                + " none): the fewest by which each PERSON whose FACE is not LOST WEARS it.");
        HungFaces x = Check.crowd(10);
        Check.due("none", x.swaps(), 0);
        for (int one = 0; one < 9; one++) {
            x.change(one, one + 1);
            Check.due("a ring of " + (one + 2), x.swaps(), one + 1);
        }
        x.hand(0, 0);
        Check.due("a chain of ten, with a HOOK", x.swaps(), 10);
        HungFaces two = Check.crowd(4);
        two.change(0, 1);
        two.change(2, 3);
        Check.due("two rings of two", two.swaps(), 2);
        HungFaces hung = Check.crowd(2);
        hung.hand(0, 0);
        Check.due("one that has none, and a HOOK", hung.swaps(), 1);
        hung.hand(1, 1);
        Check.due("two HOOKS", hung.swaps(), 2);
        hung.steal(0, 1);
        Check.due("0 WEARS 1's, 1 WEARS none, 0's hangs", hung.swaps(), 2);
        Check.sentence("Promise 24", "SWAPS.");
        HungFaces ten = told(10, "hooks 12");
        for (int one = 0; one < 10; one++) {
            ten.hand(one, 11 - one);
        }
        Check.due("all hang", ten.swaps(), 10);
        Check.due("of nobody", new HungFaces().swaps(), 0);
        Check.due("it only asks", ten.count(2), 10);
    }

    private static void saved() {
        Check.sentence("Terms", "SAVED: PEOPLE who WEAR the SPOUSE's FACE, if the SPOUSE WEARS theirs.");
        HungFaces x = told(10, "wed 9 0;wed 1 2");
        Check.due("none", x.saved(), 0);
        x.change(0, 9);
        Check.due("both", x.saved(), 513);
        x.change(1, 3);
        x.change(3, 2);
        Check.due("1 WEARS 3's", x.person(1, 1), 3);
        Check.due("2 WEARS 1's, but 1 not 2's", x.saved(), 513);
        x.change(1, 3);
        Check.due("1 WEARS 2's now", x.saved(), 519);
        x.hand(9, 0);
        Check.due("one WEARS none", x.saved(), 6);
        Check.sentence("Promise 25", "SAVED, as bits.");
        HungFaces single = Check.crowd(2);
        single.change(0, 1);
        Check.due("without a SPOUSE", single.saved(), 0);
        single.hand(0, 0);
        Check.due("without a SPOUSE and a FACE", single.saved(), 0);
        Check.due("of nobody", new HungFaces().saved(), 0);
    }

    private static void marks() {
        Check.sentence("Terms", "FEWEST MARKS: MARKS by which alone no two FACES are ALIKE: the fewest, of several the"
                + " least as bits; none, if two FACES are ALIKE.");
        HungFaces x = Check.opened("person 00000000 00000000;person 00000001 00000000");
        Check.due("MARK 7 alone", x.marks(), 128);
        Check.door(x, "person 00000011 00000000");
        Check.due("two", x.marks(), 192);
        HungFaces several = Check.opened("person 00000000 00000000;person 01010100 00000000");
        Check.due("the least of three", several.marks(), 2);
        HungFaces few = Check.opened("person 11000000 00000000;person 10100000 00000000;person 00000100 00000000;"
                + "person 01100100 00000000");
        Check.due("two, not the three least", few.marks(), 3);
        HungFaces alike = Check.opened("person 10000000 00000000;person 10000000 11111111");
        Check.due("ALIKE", alike.marks(), NONE);
        alike.shave(1, 0);
        Check.due("no more", alike.marks(), 1);
        Check.sentence("Promise 26", "FEWEST MARKS, as bits; NONE.");
        Check.due("nobody", new HungFaces().marks(), 0);
        Check.due("one", Check.crowd(1).marks(), 0);
        Check.due("ten", Check.crowd(10).marks(), 15);
        StringBuilder text = new StringBuilder("person 11111111 00000000");
        for (int mark = 0; mark < 8; mark++) {
            text.append(";person ").append(Check.figures(255 ^ 1 << mark)).append(" 00000000");
        }
        Check.due("all eight", Check.opened(text.toString()).marks(), 255);
        Check.due("two without MARKS", Check.opened("person 00000000 10000000;person 00000000 00000000").marks(), NONE);
    }

    private static void unknown() {
        Check.sentence("Terms", "UNKNOWN: PEOPLE whose MASK has the same MARKS as another one's.");
        HungFaces x = Check.opened("person 00000000 10000001;person 00000000 00000001;person 00000000 10000001;"
                + "person 10000001 00000000");
        Check.due("0 and 2", x.unknown(), 5);
        Check.door(x, "person 00000000 00000001;person 00000000 00000000");
        Check.due("by who come later", x.unknown(), 63);
        x.shave(3, 0);
        Check.due("a MASK stays", x.unknown(), 63);
        Check.sentence("Promise 27", "UNKNOWN, as bits.");
        Check.due("nobody", new HungFaces().unknown(), 0);
        Check.due("one", Check.crowd(1).unknown(), 0);
        Check.due("ten of one MASK", Check.crowd(10).unknown(), 1023);
        Check.due("of FACES of the same MARKS",
                Check.opened("person 10000000 10000000;person 10000000 01000000").unknown(), 0);
    }

    private static void passes() {
        Check.sentence("Terms", "PASSES: PEOPLE whose FACE has at most N MARKS otherwise than told ones.");
        HungFaces x = Check.opened("person 11111111 00000000;person 00000000 00000000;person 11110000 00000000");
        for (int n = 0; n <= 8; n++) {
            Check.due("all MARKS, " + n, x.passes(255, n), n < 4 ? 1 : n < 8 ? 5 : 7);
            Check.due("no MARKS, " + n, x.passes(0, n), n < 4 ? 2 : n < 8 ? 6 : 7);
        }
        Check.due("one more and one less", x.passes(23, 2), 4);
        Check.due("one more and one less are two", x.passes(23, 1), 0);
        x.hand(0, 0);
        Check.due("on a HOOK, too", x.passes(255, 0), 1);
        Check.sentence("Promise 28", "PASSES, as bits. IllegalArgumentException: MARKS (0 to 255, as bits) or"
                + " N (0 to 8) are none.");
        refusedOf(x, "MARKS", Check.ARGUMENT, new int[] {-1, 256, 511, MOST, LEAST}, n -> x.passes(n, 0));
        refusedOf(x, "N", Check.ARGUMENT, new int[] {-1, 9, MOST, LEAST}, n -> x.passes(0, n));
        Check.due("the most of both", x.passes(255, 8), 7);
        Check.due("nobody", new HungFaces().passes(255, 8), 0);
        HungFaces empty = new HungFaces();
        Check.refused(empty, "nobody, but none", Check.ARGUMENT, () -> empty.passes(256, 8));
    }

    private static void core() {
        Check.sentence("Terms", "CORE: all who WEAR a FACE give it and get one of these: again and again each one left"
                + " points to who brought the FACE that is dearest to one of those left (by WISHES); who are in a ring"
                + " of it get what they point to, and leave");
        HungFaces x = told(10, "wish 0 1;wish 1 2;wish 2 3;wish 3 4;wish 4 5;wish 5 6;wish 6 7;wish 7 8;wish 8 9;"
                + "wish 9 0");
        for (int one = 0; one < 10; one++) {
            Check.due("a ring of ten", x.core(one), (one + 1) % 10);
        }
        Check.due("all gain", x.gains(), 10);
        HungFaces left = told(4, "wish 0 1 2 3;wish 1 0;wish 2 1 3;wish 3 0 2");
        int[] gets = {1, 0, 3, 2};
        for (int one = 0; one < 4; one++) {
            Check.due("when two have left, " + one, left.core(one), gets[one]);
        }
        HungFaces own = told(3, "wish 0 0;wish 1 0 1;wish 2 0 1");
        for (int one = 0; one < 3; one++) {
            Check.due("a ring of one, " + one, own.core(one), one);
        }
        HungFaces hung = told(3, "wish 0 1 2;wish 2 1 0");
        hung.hand(1, 0);
        Check.due("what hangs is not to be had", hung.core(0), 2);
        Check.due("nor for 2", hung.core(2), 0);
        Check.sentence("Promise 29", "CORE: the FACE that one gets; NONE, if one brought none.");
        Check.due("brought none", hung.core(1), NONE);
        refusedOf(hung, "core", Check.INDEX, new int[] {-1, 3, MOST, LEAST}, hung::core);
        Check.due("it only asks", hung.person(0, 1), 0);
        HungFaces worn = Check.crowd(2);
        worn.change(0, 1);
        Check.due("by numbers 0 is the dearest to both", worn.core(0), 1);
        Check.due("who brought it keeps it", worn.core(1), 0);
        HungFaces alone = Check.crowd(1);
        Check.due("one alone", alone.core(0), 0);
        alone.hand(0, 0);
        Check.due("none", alone.core(0), NONE);
        Check.sentence("Promise 30", "CORE: how many get another one.");
        Check.due("asked first", told(4, "wish 0 1;wish 1 0").gains(), 2);
        Check.due("none brought any", alone.gains(), 0);
        Check.due("two of three", hung.gains(), 2);
        Check.due("another one than they brought, not than their own", worn.gains(), 0);
        Check.due("nobody", new HungFaces().gains(), 0);
        Check.due("each has the dearest", own.gains(), 0);
    }

    private static boolean blocks(HungFaces x, int set) {
        return x.block(set);
    }

    private static void block() {
        Check.sentence("Terms", "BLOCK: whether PEOPLE of a set, who all WEAR a FACE, could exchange these among"
                + " themselves so that none has one less dear and some a dearer one.");
        HungFaces x = told(5, "wish 0 1;wish 1 2 1;wish 2 0;wish 3 2;wish 4 4");
        Check.due("three in a ring", blocks(x, 7), true);
        Check.due("with one who keeps the own", blocks(x, 15), true);
        Check.due("all", blocks(x, 31), true);
        Check.due("one alone", blocks(x, 8), false);
        Check.due("two of the ring: 1 would have one less dear", blocks(x, 3), false);
        Check.due("3 wants 2's, 2 not 3's", blocks(x, 12), false);
        Check.due("nobody", blocks(x, 0), false);
        x.change(0, 1);
        Check.due("0 has the dearest now; 1 has 0's, wants 2's; 2 wants 0's", blocks(x, 6), true);
        HungFaces ten = told(10, "wish 0 1 0;wish 1 2 1;wish 2 3 2;wish 3 4 3;wish 4 5 4;wish 5 6 5;wish 6 7 6;"
                + "wish 7 8 7;wish 8 9 8;wish 9 0 9");
        Check.due("a ring of ten", blocks(ten, 1023), true);
        for (int one = 0; one < 10; one++) {
            Check.due("a ring of ten without " + one, blocks(ten, 1023 & ~(1 << one)), false);
        }
        HungFaces open = told(10, "wish 0 1 0;wish 1 2 1;wish 2 3 2;wish 3 4 3;wish 4 5 4;wish 5 6 5;wish 6 7 6;"
                + "wish 7 8 7;wish 8 9 8;wish 9 9");
        Check.due("ten, each wants the next one's, the last the own", blocks(open, 1023), false);
        HungFaces second = told(3, "wish 0 1 2 0;wish 1 0 1;wish 2 0 2");
        Check.due("not the dearest, but a dearer one", blocks(second, 5), true);
        Check.sentence("Promise 31", "BLOCK. IllegalStateException: one of the set WEARS no FACE.");
        x.hand(4, 0);
        Check.refused(x, "one of the set", Check.STATE, () -> x.block(31) ? 1 : 0);
        Check.refused(x, "that one alone", Check.STATE, () -> x.block(16) ? 1 : 0);
        Check.refused(x, "with all bits", Check.STATE, () -> x.block(-1) ? 1 : 0);
        Check.due("not of the set", blocks(x, 6), true);
        HungFaces bare = Check.crowd(2);
        bare.hand(0, 0);
        Check.refused(bare, "the first one", Check.STATE, () -> bare.block(3) ? 1 : 0);
        Check.refused(bare, "the first one alone", Check.STATE, () -> bare.block(1) ? 1 : 0);
        Check.due("bits of none", blocks(x, -32), false);
        Check.due("bits of none and 1, 2", blocks(x, -26), true);
    }

    private static void wrongTape(HungFaces x, int... bytes) {
        Check.Call[] calls = {() -> x.fits(NONE), () -> x.fits(0), () -> x.ask(0), x::clash};
        for (Check.Call call : calls) {
            Check.tape(x, bytes);
            Check.refused(x, "a TAPE that is not that", Check.ARGUMENT, call);
            Check.due("used up", x.end(1), false);
        }
    }

    private static int fits(HungFaces x, int person, int... bytes) {
        Check.tape(x, bytes);
        int answer = x.fits(person);
        Check.due("used up", x.end(1), false);
        return answer;
    }

    private static void fits() {
        Check.sentence("Terms", "SAID: one's FACE is, or is not, that of some number: OWNERS (each PERSON has one of"
                + " the FACES 0 to the last, no two one) by which all SAID is so: how many; the FACE that is a"
                + " PERSON's in all of these; none.");
        HungFaces x = Check.crowd(3);
        Check.due("nothing SAID", fits(x, NONE), 6);
        Check.due("it is", fits(x, NONE, 2, 0, 1), 2);
        Check.due("it is not", fits(x, NONE, 2, 0, 0), 4);
        Check.due("the same, twice", fits(x, NONE, 2, 0, 0, 2, 0, 0), 4);
        Check.due("all", fits(x, NONE, 2, 0, 1, 1, 2, 1), 1);
        Check.due("whose is left", fits(x, 0, 2, 0, 1, 1, 2, 1), 1);
        Check.due("whose was told", fits(x, 2, 2, 0, 1), 0);
        Check.due("in one it is, in one not", fits(x, 1, 2, 0, 1), NONE);
        Check.due("by none can it be", fits(x, NONE, 2, 0, 1, 1, 0, 1), 0);
        Check.due("so it is none's", fits(x, 2, 2, 0, 1, 1, 0, 1), NONE);
        Check.due("it is and is not", fits(x, NONE, 1, 1, 1, 1, 1, 0), 0);
        Check.due("nothing SAID of a PERSON", fits(x, 0), NONE);
        x.change(0, 1);
        x.hand(0, 0);
        Check.due("who WEARS what is nothing to it", fits(x, NONE), 6);
        Check.sentence("Promise 32", "SAID (of each three bytes: PERSON, FACE, 1 if it is, 0 if not; at most 12): how"
                + " many OWNERS (person NONE), or the FACE of a PERSON; NONE.");
        HungFaces ten = Check.crowd(10);
        Check.due("none told", fits(ten, NONE), 3628800);
        int[] twelve = new int[36];
        for (int i = 0; i < 12; i++) {
            twelve[3 * i] = 9;
            twelve[3 * i + 1] = Math.min(i, 8);
        }
        Check.due("twelve", fits(ten, NONE, twelve), 362880);
        Check.due("twelve leave one", fits(ten, 9, twelve), 9);
        wrongTape(ten, new int[39]);
        Check.sentence("Promise 32", "IndexOutOfBoundsException: there is no such PERSON; IllegalArgumentException: the"
                + " TAPE is not that (none may be told).");
        int[][] wrong = {{0}, {0, 0}, {0, 0, 1, 0}, {0, 0, 1, 0, 0}, {3, 0, 1}, {0, 3, 1}, {0, 0, 2}, {255, 0, 1},
            {0, 255, 1}, {0, 0, 255}, {0, 0, 1, 1, 1, 0, 2, 2, 2}, {128, 0, 0}, {0, 128, 0}, {0, 0, 128}};
        for (int[] bytes : wrong) {
            wrongTape(x, bytes);
        }
        int[] none = {-2, 3, 10, MOST, LEAST};
        for (int person : none) {
            Check.tape(x, 0, 0, 1);
            Check.refused(x, "no such PERSON", Check.INDEX, () -> x.fits(person));
            Check.due("used up", x.end(1), false);
            Check.tape(x, 0, 0);
            Check.refused(x, "no such PERSON comes first", Check.INDEX, () -> x.fits(person));
            Check.due("used up", x.end(1), false);
        }
        HungFaces empty = new HungFaces();
        Check.due("nobody: one way", empty.fits(NONE), 1);
        Check.refused(empty, "nobody is there", Check.INDEX, () -> empty.fits(0));
        wrongTape(Check.crowd(1), 0, 1, 1);
        Check.due("one alone", fits(Check.crowd(1), 0), 0);
        Check.due("who is not oneself", fits(Check.crowd(1), NONE, 0, 0, 0), 0);
    }

    private static int ask(HungFaces x, int person, int... bytes) {
        Check.tape(x, bytes);
        int answer = x.ask(person);
        Check.due("used up", x.end(1), false);
        return answer;
    }

    private static void ask() {
        Check.sentence("Terms", "ASK, of a PERSON: the FACE by which these OWNERS are parted (it is that one, or not)"
                + " so that the greater part is the least (of several the least; none with fewer than two).");
        HungFaces x = Check.crowd(4);
        Check.due("of several the least", ask(x, 3), 0);
        Check.due("not one that it is not", ask(x, 3, 3, 0, 0), 1);
        Check.due("a half, by FACE 3", ask(x, 1, 0, 3, 0, 2, 3, 0), 3);
        Check.due("of two halves the least", ask(x, 0, 0, 0, 0, 0, 1, 0), 2);
        Check.due("of two OWNERS", ask(x, 2, 0, 0, 1, 1, 1, 1), 2);
        Check.due("of just one", ask(x, 2, 0, 0, 1, 1, 1, 1, 2, 2, 1), NONE);
        Check.due("of none", ask(x, 2, 0, 0, 1, 1, 0, 1), NONE);
        Check.due("whose is told: no FACE parts them, the least", ask(x, 1, 1, 3, 1), 0);
        Check.sentence("Promise 33", "Uses the TAPE up: ASK of a PERSON (the TAPE likewise); NONE."
                + " IndexOutOfBoundsException: there is no such PERSON; IllegalArgumentException: the TAPE is not"
                + " that.");
        Check.due("of the last of ten", ask(Check.crowd(10), 9), 0);
        Check.due("of two", ask(Check.crowd(2), 1), 0);
        Check.due("of one alone", ask(Check.crowd(1), 0), NONE);
        int[] none = {-1, 4, 10, MOST, LEAST};
        for (int person : none) {
            Check.tape(x, 0, 0, 1);
            Check.refused(x, "no such PERSON", Check.INDEX, () -> x.ask(person));
            Check.due("used up", x.end(1), false);
        }
        wrongTape(x, 0, 0);
        HungFaces empty = new HungFaces();
        Check.refused(empty, "nobody is there", Check.INDEX, () -> empty.ask(0));
    }

    private static int clash(HungFaces x, int... bytes) {
        Check.tape(x, bytes);
        int answer = x.clash();
        Check.due("used up", x.end(1), false);
        return answer;
    }

    private static void clash() {
        Check.sentence("Terms", "CLASH: the fewest of all SAID that cannot be so together: of several the least as"
                + " bits; 0, if all can.");
        HungFaces x = Check.crowd(3);
        Check.due("nothing SAID", clash(x), 0);
        Check.due("all can", clash(x, 0, 1, 1, 1, 0, 1, 2, 0, 0), 0);
        Check.due("is and is not", clash(x, 0, 1, 1, 0, 1, 0), 3);
        Check.due("two of one FACE", clash(x, 1, 1, 1, 0, 0, 1, 2, 1, 1), 5);
        Check.due("of several the least", clash(x, 0, 1, 1, 0, 1, 0, 0, 1, 0, 0, 1, 1), 3);
        Check.due("of several the least", clash(x, 2, 2, 0, 0, 1, 1, 0, 0, 1, 0, 1, 0), 6);
        Check.due("nothing is left for 0", clash(x, 0, 0, 0, 0, 1, 0, 0, 2, 0), 7);
        Check.due("nobody is left for FACE 0", clash(x, 0, 0, 0, 1, 0, 0, 2, 0, 0), 7);
        Check.due("two, though three are less as bits",
                clash(x, 0, 0, 0, 0, 1, 0, 0, 2, 0, 1, 1, 1, 1, 1, 0), 24);
        Check.due("two for one FACE", clash(x, 0, 0, 0, 0, 1, 0, 1, 0, 0, 1, 1, 0), 15);
        Check.sentence("Promise 34", "Uses the TAPE up: CLASH, as bits (the TAPE likewise). IllegalArgumentException:"
                + " the TAPE is not that.");
        Check.due("one by itself", clash(Check.crowd(1), 0, 0, 0), 1);
        Check.due("one alone who is not oneself", clash(Check.crowd(1), 0, 0, 1, 0, 0, 1, 0, 0, 0), 4);
        int[] twelve = new int[36];
        for (int i = 0; i < 11; i++) {
            twelve[3 * i + 1] = i % 2;
        }
        twelve[33] = 0;
        twelve[34] = 1;
        twelve[35] = 1;
        Check.due("the 12th and the second", clash(Check.crowd(10), twelve), 2048 | 2);
        int[] most = new int[36];
        for (int i = 0; i < 10; i++) {
            most[3 * i] = 4;
            most[3 * i + 1] = 9 - i;
        }
        most[30] = 3;
        most[33] = 2;
        Check.due("ten together", clash(Check.crowd(10), most), 1023);
        HungFaces ten = Check.crowd(10);
        for (int only = 0; only < 10; only++) {
            Check.due("FACE 9 is left for " + only + " alone", clash(ten, allButOneAreNot(9, only)), 0);
            Check.due("FACE 0 is left for " + only + " alone", clash(ten, allButOneAreNot(0, only)), 0);
        }
        wrongTape(x, new int[39]);
        wrongTape(x, 0);
        Check.due("nobody", new HungFaces().clash(), 0);
    }

    /** If all have other FACES first, up to nine of them must give theirs on till the only one gets the last. */
    private static int[] allButOneAreNot(int face, int only) {
        int[] said = new int[27];
        int at = 0;
        for (int one = 0; one < 10; one++) {
            if (one != only) {
                said[at] = one;
                said[at + 1] = face;
                at += 3;
            }
        }
        return said;
    }

    private static void queue() {
        Check.sentence("Terms", "QUEUE: of all with a TICKET: the porter stands at HOOK 0, goes to the HOOK of a TICKET"
                + " (a minute for each HOOK), and a minute more: the minutes till each is served, together, are the"
                + " least: how many; the k-th in the first such order (by numbers).");
        HungFaces x = told(5, "hooks 12");
        Check.due("nobody waits", x.queue(NONE), 0);
        x.hand(3, 0);
        Check.due("at HOOK 0: a minute", x.queue(NONE), 1);
        x.hand(0, 11);
        Check.due("then 11 on, and a minute", x.queue(NONE), 1 + 13);
        x.hand(4, 5);
        Check.due("on the way", x.queue(NONE), 1 + 7 + 14);
        int[] order = {3, 4, 0};
        for (int k = 0; k < 3; k++) {
            Check.due("the " + k + "th", x.queue(k), order[k]);
        }
        x.steal(3, 5);
        x.hand(2, 5);
        Check.due("two at one HOOK", x.queue(NONE), 1 + 7 + 8 + 15);
        Check.due("by numbers", x.queue(1), 2);
        Check.due("by numbers", x.queue(2), 4);
        Check.due("a thief with a TICKET waits, too", x.queue(0), 3);
        Check.sentence("Promise 35", "QUEUE: minutes (k NONE), or the k-th (from 0 on); NONE.");
        Check.due("the last", x.queue(3), 0);
        int[] none = {4, 5, 10, MOST, -2, LEAST};
        for (int k : none) {
            Check.due("the " + k + "th", x.queue(k), NONE);
        }
        Check.due("nobody", new HungFaces().queue(0), NONE);
        Check.due("nobody", new HungFaces().queue(NONE), 0);
        HungFaces ten = told(10, "hooks 12");
        for (int one = 0; one < 10; one++) {
            ten.hand(one, 11 - one);
        }
        Check.due("ten", ten.queue(NONE), 2 + 3 + 4 + 5 + 6 + 7 + 8 + 9 + 10 + 11 + 55);
        Check.due("the first of ten", ten.queue(0), 9);
        Check.due("the last of ten", ten.queue(9), 0);
        HungFaces three = told(3, "hooks 12");
        three.hand(0, 0);
        three.hand(1, 1);
        three.hand(2, 11);
        for (int k = 0; k < 3; k++) {
            Check.due("as they are numbered", three.queue(k), k);
        }
        Check.due("no 11th", ten.queue(10), NONE);
    }

    private static void forged() {
        Check.sentence("Terms", "FORGED: told MARKS are to be had of FACES that hang, put together: the fewest of these"
                + " that have them all: of several the least as bits; none.");
        HungFaces x = Check.opened("person 11110000 00000000;person 00001111 00000000;person 11000000 00000000;"
                + "person 00110000 00000000;person 00001111 00000000;person 11111111 00000000");
        Check.due("nothing hangs", x.forged(1), NONE);
        x.hand(4, 4);
        x.hand(2, 5);
        x.hand(3, 0);
        Check.due("three", x.forged(255), 28);
        Check.due("one", x.forged(240), 16);
        x.hand(1, 1);
        Check.due("of several the least", x.forged(240), 2);
        Check.due("of several the least", x.forged(255), 14);
        x.hand(0, 2);
        Check.due("fewer", x.forged(255), 3);
        Check.due("fewer, though greater as bits", x.forged(15), 1);
        x.hand(5, 3);
        Check.due("one for all", x.forged(255), 32);
        x.fetch(5);
        x.shave(1, 7);
        x.shave(4, 7);
        Check.due("to be had no more", x.forged(128), NONE);
        Check.sentence("Promise 36", "FORGED, as bits of FACES; NONE. IllegalArgumentException: MARKS are none.");
        refusedOf(x, "MARKS", Check.ARGUMENT, new int[] {-1, 256, MOST, LEAST}, x::forged);
        Check.due("no MARKS: no FACE", x.forged(0), 0);
        Check.due("nobody, no MARKS", new HungFaces().forged(0), 0);
        Check.due("nobody", new HungFaces().forged(255), NONE);
        HungFaces ten = told(10, "hooks 12");
        for (int one = 0; one < 10; one++) {
            ten.hand(one, one);
        }
        Check.due("of ten", ten.forged(15), 128 | 256);
        Check.due("the last of ten", ten.forged(9), 512);
    }

    private static void ways() {
        Check.sentence("Terms", "WAYS: all TICKETS are given out anew among those who have some: in how many of all"
                + " ways just M have the one that they have now (two TICKETS of one HOOK are two).");
        int[][] due = {{1, 0}, {0, 1, 0}, {1, 0, 1, 0}, {2, 3, 0, 1, 0}, {9, 8, 6, 0, 1, 0}};
        for (int holders = 0; holders < due.length; holders++) {
            HungFaces x = Check.crowd(5);
            for (int one = 0; one < holders; one++) {
                x.hand(one, one);
            }
            for (int m = 0; m < due[holders].length; m++) {
                Check.due(m + " of " + holders, x.ways(m), due[holders][m]);
            }
        }
        HungFaces two = Check.crowd(3);
        two.hand(0, 0);
        two.hand(1, 1);
        two.steal(1, 0);
        two.hand(2, 0);
        Check.due("two TICKETS of one HOOK are two", two.ways(3), 1);
        Check.due("two TICKETS of one HOOK are two", two.ways(1), 3);
        Check.sentence("Promise 37", "WAYS. IllegalArgumentException: M is none (0 to 10).");
        refusedOf(two, "M", Check.ARGUMENT, new int[] {-1, 11, MOST, LEAST}, two::ways);
        HungFaces ten = told(10, "hooks 12");
        Check.due("nobody has one", ten.ways(0), 1);
        Check.due("10 of nobody", ten.ways(10), 0);
        for (int one = 0; one < 10; one++) {
            ten.hand(one, one + 2);
        }
        int[] ofTen = {1334961, 1334960, 667485, 222480, 55650, 11088, 1890, 240, 45, 0, 1};
        for (int m = 0; m <= 10; m++) {
            Check.due(m + " of ten", ten.ways(m), ofTen[m]);
        }
    }

    private static void talkAndRow() {
        Check.sentence("Terms", "TALK: HOOKS beside one another that all have FACES are a ROW: FACES of that of a HOOK,"
                + " as bits; the HOOKS of the longest one.");
        HungFaces x = told(10, "hooks 12");
        x.hand(9, 11);
        x.hand(8, 10);
        x.hand(0, 0);
        Check.due("at the end", x.talk(11), 768);
        Check.due("from its first", x.talk(10), 768);
        Check.due("the first HOOK is not beside the last", x.talk(0), 1);
        Check.due("two", x.row(false), 2);
        Check.due("from 10 on", x.row(true), 10);
        x.hand(1, 2);
        Check.due("a HOOK between", x.talk(2), 2);
        x.hand(2, 1);
        Check.due("now it is one ROW", x.talk(2), 7);
        Check.due("from its begin", x.talk(0), 7);
        Check.due("three", x.row(false), 3);
        Check.sentence("Promise 38", "TALK of a HOOK, as bits (0, if none hangs there).");
        Check.due("none hangs there", x.talk(3), 0);
        Check.due("none hangs there, beside a ROW", x.talk(9), 0);
        refusedOf(x, "talk", Check.INDEX, new int[] {-1, 12, MOST, LEAST}, x::talk);
        Check.due("nobody", new HungFaces().talk(5), 0);
        HungFaces six = new HungFaces();
        refusedOf(six, "talk", Check.INDEX, new int[] {6, 11}, six::talk);
        Check.sentence("Promise 39", "HOOKS of the longest ROW: how many (begin false), or the first of these (of"
                + " several the least; NONE).");
        Check.due("no ROW", new HungFaces().row(false), 0);
        Check.due("no ROW", new HungFaces().row(true), NONE);
        Check.due("its first", x.row(true), 0);
        x.hand(7, 9);
        Check.due("two of three", x.row(false), 3);
        Check.due("of several the least", x.row(true), 0);
        x.hand(6, 8);
        Check.due("a longer one at the end", x.row(true), 8);
        Check.due("of four", x.row(false), 4);
        HungFaces full = told(10, "hooks 10");
        for (int one = 0; one < 10; one++) {
            full.hand(one, one);
        }
        Check.due("all HOOKS", full.row(false), 10);
        Check.due("all HOOKS", full.talk(4), 1023);
        full.fetch(0);
        Check.due("but the first", full.row(true), 1);
    }

    private static void chain() {
        Check.sentence("Terms", "CHAIN from one to another one: the fewest steps, each to one whom one KNOWS; none.");
        HungFaces x = told(10, "knows 0 1;knows 1 2;knows 2 3;knows 3 4;knows 4 5;knows 5 6;knows 6 7;knows 7 8;"
                + "knows 8 9");
        for (int one = 1; one < 10; one++) {
            Check.due(one + " steps", x.chain(0, one), one);
            Check.due("not back", x.chain(one, 0), NONE);
        }
        Check.door(x, "knows 2 8");
        Check.due("the fewest", x.chain(0, 9), 4);
        Check.due("the old ones", x.chain(0, 7), 7);
        x.meet(0, 9);
        Check.due("by a MEETING", x.chain(9, 1), 1);
        Check.sentence("Promise 40", "CHAIN; NONE. IllegalArgumentException: both are one.");
        Check.refused(x, "both are one", Check.ARGUMENT, () -> x.chain(0, 0));
        Check.refused(x, "both are the last one", Check.ARGUMENT, () -> x.chain(9, 9));
        Check.refused(x, "both are none", Check.INDEX, () -> x.chain(10, 10));
        Check.due("nobody is KNOWN", Check.crowd(2).chain(0, 1), NONE);
    }

    private static void hears() {
        Check.sentence("Terms", "HEARS by N rounds (0 to 20): in each one all two who KNOW each other meet (by numbers"
                + " of the lesser, then of the other one): whom a PERSON KNOWS then (nothing stays).");
        HungFaces x = told(10, "knows 0 1;knows 1 0 2;knows 2 1 3;knows 3 2 9;knows 4 0;knows 5 6;knows 6 5");
        String before = Check.seen(x);
        Check.due("no round: as it is", x.hears(1, 0), 5);
        // 0 and 1; then 1 and 2, then 1 KNOWS 3 and 3 not 1; 2 and 3 at last.
        Check.due("0 after one", x.hears(0, 1), 6);
        Check.due("1 after one", x.hears(1, 1), 1 | 4 | 8);
        Check.due("2 after one", x.hears(2, 1), 1 | 2 | 8 | 512);
        Check.due("3 after one", x.hears(3, 1), 1 | 2 | 4 | 512);
        Check.due("0 after twenty", x.hears(0, 20), 2 | 4 | 8 | 512);
        Check.due("one who is not KNOWN back", x.hears(4, 20), 1);
        Check.due("one who KNOWS nobody", x.hears(9, 20), 0);
        Check.due("two by themselves", x.hears(5, 20), 64);
        Check.due("nothing stays", Check.seen(x).equals(before), true);
        Check.sentence("Promise 41", "HEARS, as bits. IllegalArgumentException: N is none.");
        int[] wrong = {-1, 21, MOST, LEAST};
        for (int n : wrong) {
            Check.refused(x, "rounds " + n, Check.ARGUMENT, () -> x.hears(0, n));
            Check.refused(x, "no PERSON comes first", Check.INDEX, () -> x.hears(10, n));
        }
        Check.refused(x, "no PERSON", Check.INDEX, () -> x.hears(-1, 0));
        HungFaces line = told(10, "knows 0 1;knows 1 0 2;knows 2 1 3;knows 3 2 4;knows 4 3 5;knows 5 4 6;knows 6 5 7;"
                + "knows 7 6 8;knows 8 7 9;knows 9 8");
        Check.due("a line of ten, twenty rounds", line.hears(0, 20), 1022);
        Check.due("from the far end", line.hears(9, 20), 511);
    }

    /** WRONG after so many HOURS from a SEED, by going there and back. */
    private static int byGoingThere(HungFaces x, int hours, int seed) {
        x.image();
        x.seed(seed);
        if (hours > 0) {
            x.hours(hours);
        }
        int wrong = Integer.bitCount(x.wrong());
        x.back();
        return wrong;
    }

    private static HungFaces lively() {
        HungFaces x = told(8, "mix 60;thief 20;wed 0 1");
        return Check.law(x, "hand if hour<2 or marks+4>hour and hung<4;fetch if hour>2 and(who<5 or hung>3)");
    }

    private static void trial() {
        Check.sentence("Terms", "TRIAL of N HOURS (0 to 30) from now (draws, too; nothing stays): how many are WRONG"
                + " then.");
        HungFaces x = lively();
        x.hours(2);
        x.meet(0, 1);
        for (int n = 0; n <= 30; n++) {
            HungFaces then = lively();
            then.hours(2);
            if (n > 0) {
                then.hours(n);
            }
            Check.due("TRIAL of " + n, x.trial(n), Integer.bitCount(then.wrong()));
        }
        String before = Check.seen(x);
        x.trial(30);
        Check.due("nothing stays", Check.seen(x).equals(before), true);
        Check.due("what can be UNDONE stays", x.count(11), 2);
        HungFaces now = Check.crowd(4);
        now.change(0, 3);
        Check.due("0 HOURS: as it is now", now.trial(0), 2);
        Check.due("how many, not which", now.wrong(), 9);
        Check.sentence("Promise 42", "TRIAL. IllegalArgumentException: N is none.");
        refusedOf(x, "trial", Check.ARGUMENT, new int[] {-1, 31, 50, MOST, LEAST}, x::trial);
        Check.due("nobody", new HungFaces().trial(30), 0);
    }

    private static void span() {
        Check.sentence("Terms", "SPAN: the fewest and the most of such TRIALS from SEED 1, 2, .. 6.");
        int unlike = 0;
        for (int n = 0; n <= 30; n++) {
            HungFaces x = lively();
            x.hours(1);
            x.seed(99);
            int fewest = 10;
            int most = 0;
            for (int seed = 1; seed <= 6; seed++) {
                int wrong = byGoingThere(x, n, seed);
                fewest = Math.min(fewest, wrong);
                most = Math.max(most, wrong);
            }
            Check.due("the fewest of " + n, x.span(n, false), fewest);
            Check.due("the most of " + n, x.span(n, true), most);
            Check.due("SEED stays", x.seed(99), 99);
            unlike += fewest < most ? 1 : 0;
        }
        Check.due("they are not all the same", unlike > 5, true);
        eachSeedCounts();
        Check.sentence("Promise 43", "SPAN: the fewest (most false), or the most. IllegalArgumentException: N is"
                + " none.");
        HungFaces y = Check.crowd(4);
        y.change(0, 3);
        Check.due("0 HOURS: the fewest", y.span(0, false), 2);
        Check.due("0 HOURS: the most", y.span(0, true), 2);
        int[] wrong = {-1, 31, 50, MOST, LEAST};
        for (int n : wrong) {
            Check.refused(y, "the fewest of " + n, Check.ARGUMENT, () -> y.span(n, false));
            Check.refused(y, "the most of " + n, Check.ARGUMENT, () -> y.span(n, true));
        }
    }

    /** For each SEED of 1 to 6 a carnival in which that one alone has the most; 0 and 7 would have more in some. */
    private static void eachSeedCounts() {
        int found = 0;
        for (int hours = 1; hours <= 30; hours++) {
            for (int mix = 3; mix <= 99; mix += 12) {
                HungFaces x = told(8, "mix " + mix);
                Check.law(x, "hand if hour<1;fetch if hour>" + hours / 2);
                int[] wrong = new int[8];
                int most = 0;
                int fewest = 10;
                for (int seed = 0; seed <= 7; seed++) {
                    wrong[seed] = byGoingThere(x, hours, seed);
                    most = seed % 7 == 0 ? most : Math.max(most, wrong[seed]);
                    fewest = seed % 7 == 0 ? fewest : Math.min(fewest, wrong[seed]);
                }
                Check.due("the most", x.span(hours, true), most);
                Check.due("the fewest", x.span(hours, false), fewest);
                int holders = 0;
                for (int seed = 1; seed <= 6; seed++) {
                    holders |= wrong[seed] == most ? 1 << seed : 0;
                }
                found |= Integer.bitCount(holders) == 1 ? holders : 0;
                found |= wrong[0] > most || wrong[0] < fewest ? 1 : 0;
                found |= wrong[7] > most || wrong[7] < fewest ? 128 : 0;
            }
        }
        Check.due("each SEED was the one that counts", found, 255);
    }

    private static void led() {
        Check.sentence("Terms", "LED: by how many rows of THE LOG a FACE was FETCHED or STOLEN; the PERSON who did last"
                + " (none).");
        HungFaces x = Check.crowd(3);
        x.hand(0, 0);
        Check.due("HANDED in is not LED", x.led(0, false), 0);
        x.hand(1, 1);
        x.mix(0, 1);
        Check.due("TICKETS changed is not", x.led(1, false), 0);
        x.fetch(1);
        Check.due("FETCHED", x.led(0, false), 1);
        Check.due("by 1", x.led(0, true), 1);
        x.steal(0, 1);
        Check.due("STOLEN", x.led(1, false), 1);
        Check.due("by 0", x.led(1, true), 0);
        x.hand(1, 2);
        x.fetch(1);
        Check.due("twice", x.led(0, false), 2);
        x.change(0, 1);
        Check.due("FACES changed is not", x.led(0, true), 1);
        x.undo();
        x.undo();
        Check.due("UNDONE", x.led(0, false), 1);
        Check.sentence("Promise 44", "LED: how many rows (who false), or the PERSON; NONE.");
        Check.due("none", x.led(2, true), NONE);
        Check.due("no rows", x.led(2, false), 0);
        HungFaces y = told(10, "hooks 12");
        y.hand(9, 11);
        y.fetch(9);
        Check.due("the last one's", y.led(9, true), 9);
        for (int i = 0; i < 29; i++) {
            y.hand(0, 0);
            y.fetch(0);
        }
        Check.due("the 59th row ago", y.led(9, false), 1);
        y.hand(0, 0);
        Check.due("the 60th, the last one", y.led(9, true), 9);
        y.fetch(0);
        Check.due("out of THE LOG", y.led(9, false), 0);
        Check.due("out of THE LOG", y.led(9, true), NONE);
        Check.due("half of 60 rows", y.led(0, false), 30);
        HungFaces none = Check.crowd(3);
        none.hand(0, 3);
        none.hand(1, 4);
        none.steal(1, 3);
        none.fetch(0);
        Check.due("FETCHED where none hung leads no FACE", none.led(0, false), 1);
        Check.due("nor 1's", none.led(1, false), 0);
    }
}
