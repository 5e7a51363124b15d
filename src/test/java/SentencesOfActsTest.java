/** A test for each sentence that names an edge: ACTS, HOURS, THE LOG (Terms, part 2), promises 7 to 20. */
public final class SentencesOfActsTest {
    private static final int NONE = HungFaces.NONE;
    private static final int MOST = Integer.MAX_VALUE;
    private static final int LEAST = Integer.MIN_VALUE;
    private static final int[] NO_PERSON_OF_THREE = {-1, 3, 9, 10, 32, MOST, LEAST};
    private static final int[] NO_HOOK_OF_SIX = {-1, 6, 11, 12, 32, MOST, LEAST};
    private static final int[] NO_MARK = {-1, 8, 31, 32, 33, MOST, LEAST};

    private interface Of {
        long make(int number);
    }

    public static void main(String[] args) {
        handedAndFetched();
        turnsOfAnHour();
        mixOfAnHour();
        thiefOfAnHour();
        draws();
        actsOfTwo();
        theLog();
        exceptions();
        person();
        face();
        hookAndWish();
        thinks();
        hand();
        fetch();
        mix();
        steal();
        change();
        shave();
        graft();
        meet();
        hours();
        Check.promisesSeen(7, 20);
        Check.close();
    }

    /** FACES of 2, 2 and 8 MARKS; 0 and 2 are wed. */
    private static HungFaces three() {
        return Check.opened("person 11000000 10000000;person 10000001 01000000;person 11111111 10000000;wed 0 2");
    }

    private static void refusedOf(HungFaces x, String what, String want, int[] numbers, Of call) {
        for (int number : numbers) {
            Check.refused(x, what + " " + number, want, () -> call.make(number));
        }
    }

    private static void logged(HungFaces x, int ago, int... row) {
        for (int what = 0; what < row.length; what++) {
            Check.due("THE LOG " + ago + " ago, what " + what, x.log(ago, what), row[what]);
        }
    }

    private static int after(int seed) {
        return 1103515245 * seed + 12345;
    }

    private static int drawn(int seed) {
        return seed >>> 16 & 32767;
    }

    /** A SEED by which the draw so many ahead is, modulo 100, just that. */
    private static int seedOf(int draws, int modulo) {
        for (int seed = 1; seed < 100000; seed++) {
            int then = seed;
            for (int i = 0; i < draws; i++) {
                then = after(then);
            }
            if (drawn(then) % 100 == modulo) {
                return seed;
            }
        }
        return 0;
    }

    private static void handedAndFetched() {
        Check.sentence("Terms", "HANDED in: the FACE that one WEARS hangs on a HOOK that has none;"
                + " one WEARS none and has the TICKET of that HOOK.");
        HungFaces x = three();
        x.change(0, 2);
        Check.due("the FACE that one WEARS", x.hand(0, 5), 2);
        Check.due("it hangs", x.hook(5), 2);
        Check.due("its HOOK", x.face(2, 2), 5);
        Check.due("WEARS none", x.person(0, 1), NONE);
        Check.due("none WEARS it", x.face(2, 1), NONE);
        Check.due("TICKET", x.person(0, 2), 5);
        Check.refused(x, "a HOOK that has one", Check.STATE, () -> x.hand(1, 5));
        Check.sentence("Terms",
                "FETCHED: what hangs at one's TICKET one WEARS (none, if none hangs); the TICKET is given up.");
        x.hand(1, 0);
        x.mix(0, 1);
        Check.due("what hangs there", x.fetch(0), 1);
        Check.due("WEARS it", x.person(0, 1), 1);
        Check.due("it hangs no more", x.hook(0), NONE);
        Check.due("given up", x.person(0, 2), NONE);
        x.hand(2, 0);
        x.steal(2, 5);
        Check.due("none hangs", x.fetch(1), NONE);
        Check.due("WEARS none", x.person(1, 1), NONE);
        Check.due("given up all the same", x.person(1, 2), NONE);
        Check.due("the others' stay", x.count(8), 4);
    }

    private static void turnsOfAnHour() {
        Check.sentence("Terms", "(a) each PERSON, by numbers, by all as it is by then");
        HungFaces x = Check.crowd(4);
        Check.law(x, "hand if hung<1 or who>2");
        Check.due("0, and then only 3", x.hours(1), 2);
        Check.due("who", x.count(8), 9);
        Check.due("the first at the least", x.hook(0), 0);
        Check.due("the later behind", x.hook(1), 3);
        HungFaces y = Check.crowd(3);
        y.hand(0, 0);
        y.hand(1, 1);
        Check.law(y, "fetch if hung>1;hand if free>5");
        Check.due("0 FETCHED, then 1 may not, nor may 2", y.hours(1), 1);
        Check.due("1 and no other", y.count(8), 2);
        Check.sentence("Terms", "if one WEARS a FACE, has no TICKET, a HOOK is free and a hand LINE holds:"
                + " it is HANDED in at the least free HOOK");
        HungFaces z = Check.opened("person 10000000 00000000;person 01000000 00000000;person 11000000 00000000;"
                + "person 00100000 00000000;hooks 3");
        z.hand(0, 0);
        z.hand(1, 2);
        z.steal(0, 2);
        Check.law(z, "hand");
        Check.due("a HOOK between, then the last", z.hours(1), 2);
        Check.due("the least one", z.hook(1), 2);
        Check.due("the other one", z.hook(2), 3);
        Check.due("who WEARS one and has a TICKET keeps it", z.person(0, 1), 1);
        Check.due("who WEARS none keeps the TICKET", z.person(1, 2), 2);
        Check.due("no HOOK is free", z.hours(5), 0);
        HungFaces full = Check.crowd(7);
        Check.law(full, "hand");
        Check.due("six HOOKS for seven", full.hours(1), 6);
        Check.due("the last one WEARS it still", full.person(6, 1), 6);
        HungFaces no = Check.crowd(3);
        Check.law(no, "hand if 0>1;fetch");
        Check.due("no hand LINE holds", no.hours(3), 0);
        Check.sentence("Terms", "else, if one WEARS none, has a TICKET and a fetch LINE holds: FETCHED.");
        HungFaces both = Check.crowd(2);
        Check.law(both, "hand;fetch");
        Check.due("one of both in AN HOUR", both.hours(1), 2);
        Check.due("HANDED in", both.count(2), 2);
        Check.due("then FETCHED", both.hours(1), 2);
        Check.due("none hangs", both.count(2), 0);
        HungFaces bare = Check.crowd(3);
        bare.hand(0, 0);
        bare.hand(1, 1);
        bare.steal(0, 1);
        bare.fetch(1);
        Check.law(bare, "fetch;hand if who>4");
        Check.due("who has no TICKET, and who WEARS one", bare.hours(5), 0);
        HungFaces held = Check.crowd(2);
        held.hand(0, 0);
        Check.law(held, "fetch if who>0;hand if who<1");
        Check.due("no fetch LINE holds", held.hours(3), 0);
        HungFaces late = Check.crowd(3);
        late.hand(2, 0);
        late.hand(0, 1);
        late.steal(0, 0);
        Check.law(late, "fetch");
        Check.due("none hangs at the TICKET", late.hours(1), 1);
        Check.due("given up", late.count(8), 1);
        Check.due("WEARS none", late.person(2, 1), NONE);
    }

    /** Five PEOPLE, so many with TICKETS 0, 1, .. */
    private static HungFaces holders(int howMany, String door) {
        HungFaces x = Check.crowd(5);
        Check.door(x, door);
        for (int one = 0; one < howMany; one++) {
            x.hand(one, one);
        }
        return x;
    }

    private static void mixOfAnHour() {
        Check.sentence("Terms", "(b) DRAW modulo 100 below MIX, and at least two have TICKETS");
        int[] edges = {0, 1, 37, 98, 99};
        for (int modulo : edges) {
            HungFaces same = holders(2, "mix " + modulo);
            same.seed(seedOf(1, modulo));
            same.hours(1);
            Check.due("just MIX is not below it", same.person(0, 2), 0);
            HungFaces more = holders(2, "mix " + (modulo + 1));
            more.seed(seedOf(1, modulo));
            more.hours(1);
            Check.due("1 below MIX", more.person(0, 2), 1);
            Check.due("the other one's", more.person(1, 2), 0);
        }
        HungFaces never = holders(5, "mix 0");
        HungFaces always = holders(2, "mix 100");
        for (int i = 1; i <= 50; i++) {
            never.hours(1);
            always.hours(1);
            Check.due("MIX 100: always", always.person(0, 2), i % 2);
        }
        Check.due("MIX 0: never", never.count(10), 5);
        for (int one = 0; one <= 1; one++) {
            HungFaces few = holders(one, "mix 100");
            few.hours(1);
            Check.due("fewer than two: no row", few.count(10), one);
            Check.due("nor a DRAW more", few.seed(0), after(after(1)));
        }
        Check.sentence("Terms", "the one of them by numbers that is DRAW modulo how many, and of the others the one"
                + " by numbers that is DRAW modulo how many these are, change TICKETS.");
        mixedBySeeds(new int[] {1, 3, 4, 5});
        mixedBySeeds(new int[] {0, 1, 2, 5});
    }

    private static void mixedBySeeds(int[] who) {
        for (int seed = 1; seed <= 40; seed++) {
            HungFaces x = Check.crowd(6);
            Check.door(x, "mix 100");
            for (int i = 0; i < 4; i++) {
                x.hand(who[i], i + 1);
            }
            x.seed(seed);
            x.hours(1);
            int first = drawn(after(after(seed))) % 4;
            int second = drawn(after(after(after(seed)))) % 3;
            second += second >= first ? 1 : 0;
            for (int i = 0; i < 4; i++) {
                int due = i == first ? second : i == second ? first : i;
                Check.due("TICKET of " + who[i] + " by SEED " + seed, x.person(who[i], 2), due + 1);
            }
            Check.due("four DRAWS", x.seed(0), after(after(after(after(seed)))));
        }
    }

    private static void thiefOfAnHour() {
        Check.sentence("Terms", "(c) DRAW modulo 100 below THIEF, and a FACE hangs");
        int[] edges = {0, 1, 62, 98, 99};
        for (int modulo : edges) {
            HungFaces same = Check.opened("person 11111111 00000000;thief " + modulo);
            same.hand(0, 3);
            same.seed(seedOf(2, modulo));
            same.hours(1);
            Check.due("just THIEF is not below it", same.face(0, 0), 255);
            HungFaces more = Check.opened("person 11111111 00000000;thief " + (modulo + 1));
            more.hand(0, 3);
            more.seed(seedOf(2, modulo));
            more.hours(1);
            Check.due("1 below THIEF", more.face(0, 0), 254);
        }
        HungFaces never = Check.opened("person 11111111 00000000");
        never.hand(0, 3);
        never.hours(50);
        Check.due("THIEF 0: never", never.face(0, 0), 255);
        HungFaces worn = Check.opened("person 11111111 00000000;thief 100");
        worn.hours(50);
        Check.due("none hangs", worn.face(0, 0), 255);
        Check.sentence("Terms", "of the FACE that is, by HOOKS, DRAW modulo how many hang the least MARK is gone"
                + " (if it has one).");
        for (int seed = 1; seed <= 40; seed++) {
            HungFaces x = Check.opened("person 01100000 00000000;person 00000001 00000000;person 10000001 00000000;"
                    + "person 11111111 00000000;thief 100");
            x.hand(2, 1);
            x.hand(0, 3);
            x.hand(1, 5);
            x.seed(seed);
            x.hours(1);
            int nth = drawn(after(after(after(seed)))) % 3;
            Check.due("at the first HOOK", x.face(2, 0), nth == 0 ? 128 : 129);
            Check.due("at the second one", x.face(0, 0), nth == 1 ? 4 : 6);
            Check.due("at the third one", x.face(1, 0), nth == 2 ? 0 : 128);
            Check.due("it is worn", x.face(3, 0), 255);
            Check.due("three DRAWS", x.seed(0), after(after(after(seed))));
        }
        HungFaces all = Check.opened("person 11111111 11111111;thief 100");
        all.hand(0, 0);
        for (int left = 7; left >= 0; left--) {
            all.hours(1);
            Check.due("the least is gone", all.face(0, 0), 255 & 255 << 8 - left);
        }
        all.seed(5);
        all.hours(1);
        Check.due("it has none", all.face(0, 0), 0);
        Check.due("but it was drawn", all.seed(0), after(after(after(5))));
        Check.due("the MASK stays", all.person(0, 0), 255);
    }

    private static void draws() {
        Check.sentence("Terms", "(The first DRAW of (b), of (c) is made always.)");
        HungFaces x = new HungFaces();
        x.hours(1);
        Check.due("nobody, no MIX, no THIEF", x.seed(1), after(after(1)));
        x.hours(50);
        int seed = 1;
        for (int i = 0; i < 100; i++) {
            seed = after(seed);
        }
        Check.due("two each HOUR", x.seed(1), seed);
        Check.sentence("Terms", "HOUR is 1 more.");
        Check.due("51", x.count(5), 51);
        x.hours(1);
        Check.due("52", x.count(5), 52);
        HungFaces now = Check.crowd(2);
        Check.door(now, "mix 100");
        Check.law(now, "hand");
        now.hours(1);
        for (int ago = 0; ago < 4; ago++) {
            Check.due("rows of the first HOUR are of HOUR 0", now.log(ago, 0), 0);
        }
        Check.sentence("Terms", "DRAW: SEED is 1103515245 times SEED and 12345, as an int that goes round;"
                + " bits 16 to 30 (SEED 1 at first).");
        HungFaces y = new HungFaces();
        Check.due("1 at first", y.seed(MOST), 1);
        int[] seeds = {MOST, LEAST, -1, 0, 123456789};
        for (int start : seeds) {
            y.seed(start);
            y.hours(1);
            long first = 1103515245L * start + 12345;
            Check.due("it goes round", y.seed(0), (int) (1103515245L * (int) first + 12345));
        }
        int top = 1;
        while (after(top) >= 0 || drawn(after(top)) % 100 >= 50) {
            top++;
        }
        HungFaces bit = holders(2, "mix 50");
        bit.seed(top);
        bit.hours(1);
        Check.due("bit 31 does not count", bit.person(0, 2), 1);
        int low = 1;
        while ((after(low) >>> 16 & 32767) % 100 != 49 || (after(low) >>> 15 & 65535) % 100 < 50) {
            low++;
        }
        HungFaces sixteen = holders(2, "mix 50");
        sixteen.seed(low);
        sixteen.hours(1);
        Check.due("bit 15 does not count", sixteen.person(0, 2), 1);
        int high = 1;
        while ((after(high) & 1 << 30) == 0 || drawn(after(high)) % 100 >= 50
                || (drawn(after(high)) & 16383) % 100 < 50) {
            high++;
        }
        HungFaces thirty = holders(2, "mix 50");
        thirty.seed(high);
        thirty.hours(1);
        Check.due("bit 30 counts", thirty.person(0, 2), 1);
    }

    private static void actsOfTwo() {
        Check.sentence("Terms", "two change TICKETS (both have one)");
        HungFaces x = Check.crowd(4);
        x.hand(0, 0);
        Check.refused(x, "the other has none", Check.STATE, () -> x.mix(0, 1));
        Check.refused(x, "the one has none", Check.STATE, () -> x.mix(1, 0));
        Check.refused(x, "neither has one", Check.STATE, () -> x.mix(1, 2));
        x.hand(1, 1);
        Check.due("both have one", x.mix(0, 1), 1);
        Check.sentence("Terms", "a FACE is STOLEN from a HOOK by one who WEARS none"
                + " (the TICKET of that HOOK stays with whoever has it)");
        Check.refused(x, "one who WEARS one", Check.STATE, () -> x.steal(2, 0));
        Check.due("at one's own TICKET", x.steal(0, 1), 1);
        Check.due("it stays with the thief, too", x.person(0, 2), 1);
        Check.due("the other one's stays", x.person(1, 2), 0);
        Check.due("at the other one's HOOK", x.steal(1, 0), 0);
        Check.due("stays", x.count(8), 3);
        Check.refused(x, "nothing hangs there now", Check.STATE, () -> x.steal(1, 0));
        Check.sentence("Terms", "two change the FACES that they WEAR");
        Check.due("those with TICKETS, too", x.change(0, 2), 2);
        Check.due("the other one", x.person(2, 1), 1);
        Check.due("the TICKETS stay", x.person(0, 2), 1);
        Check.sentence("Terms", "a MARK of a FACE is SHAVED off");
        Check.due("of FACE 3 MARK 1", x.shave(3, 1), 1);
        Check.due("MARK 0 is left", x.face(3, 0), 1);
        Check.sentence("Terms", "a MARK is GRAFTED: it goes from one FACE to another one that has it not");
        Check.due("to FACE 0", x.graft(3, 0, 0), 1);
        Check.due("it came", x.face(0, 0), 1);
        Check.due("it went", x.face(3, 0), 0);
        Check.refused(x, "the other one has it", Check.STATE, () -> x.graft(0, 1, 0));
        Check.sentence("Terms", "both KNOW whom either of them KNOWS, and each other (not oneself),"
                + " and each THINKS that the other one KNOWS that");
        HungFaces y = Check.crowd(10);
        Check.door(y, "knows 0 9;knows 9 0 4;knows 1 9");
        Check.due("MEETING", y.meet(0, 9), 1 | 512 | 16);
        Check.due("0 KNOWS", y.person(0, 4), 512 | 16);
        Check.due("9 KNOWS", y.person(9, 4), 1 | 16);
        Check.due("0 THINKS that 9 KNOWS", y.thinks(0, 9), 1 | 16);
        Check.due("9 THINKS that 0 KNOWS", y.thinks(9, 0), 512 | 16);
        Check.due("4, who was known, KNOWS nobody", y.person(4, 4), 0);
        Check.due("1 THINKS nothing of 9", y.thinks(1, 9), 0);
        Check.due("two who KNOW nobody", y.meet(5, 6), 96);
        Check.due("5 KNOWS", y.person(5, 4), 64);
        Check.due("6 KNOWS", y.person(6, 4), 32);
        Check.due("a later MEETING", y.meet(1, 0), 2 | 512 | 1 | 16);
        Check.due("9 THINKS as before", y.thinks(9, 0), 512 | 16);
        Check.due("0 THINKS as before of 9", y.thinks(0, 9), 1 | 16);
    }

    private static void theLog() {
        Check.sentence("Terms", "THE LOG: the latest 60");
        HungFaces x = Check.crowd(3);
        for (int i = 0; i < 30; i++) {
            x.hand(i % 3, i % 6);
            x.fetch(i % 3);
        }
        Check.due("60 rows", x.count(10), 60);
        logged(x, 59, 0, 0, 0, 0, 0);
        Check.due("no 61st", x.log(60, 0), -99);
        x.hand(2, 5);
        Check.due("60 still", x.count(10), 60);
        logged(x, 59, 0, 0, 0, 0, 1);
        logged(x, 0, 0, 2, 5, 2, 0);
        Check.due("no 61st", x.log(60, 0), -99);
        Check.sentence("Terms", "HOUR, PERSON, HOOK, FACE, which: 0 HANDED in, 1 FETCHED, 2 STOLEN, 3 TICKETS changed");
        HungFaces y = Check.crowd(10);
        Check.door(y, "hooks 12");
        y.hours(50);
        y.hand(9, 11);
        logged(y, 0, 50, 9, 11, 9, 0);
        y.hand(0, 0);
        logged(y, 0, 50, 0, 0, 0, 0);
        y.steal(0, 11);
        logged(y, 0, 50, 0, 11, 9, 2);
        y.fetch(9);
        logged(y, 0, 50, 9, 11, NONE, 1);
        y.hand(5, 4);
        y.fetch(5);
        logged(y, 0, 50, 5, 4, 5, 1);
        int rows = y.count(10);
        y.change(0, 1);
        y.shave(1, 0);
        y.graft(3, 2, 0);
        y.meet(0, 1);
        y.hours(1);
        Check.due("no other ACT has a row", y.count(10), rows);
        Check.sentence("Terms", "(two rows, the lesser PERSON first; HOOK: of the TICKET that one has then;"
                + " FACE: none).");
        HungFaces z = Check.crowd(10);
        z.hand(9, 0);
        z.hand(2, 5);
        z.mix(9, 2);
        logged(z, 1, 0, 2, 0, NONE, 3);
        logged(z, 0, 0, 9, 5, NONE, 3);
        z.mix(2, 9);
        logged(z, 1, 0, 2, 5, NONE, 3);
        logged(z, 0, 0, 9, 0, NONE, 3);
        Check.due("two rows each", z.count(10), 6);
        Check.door(z, "mix 100");
        z.hours(1);
        logged(z, 1, 0, 2, 0, NONE, 3);
        logged(z, 0, 0, 9, 5, NONE, 3);
    }

    private static void exceptions() {
        Check.sentence("Terms", "Of several exceptions the one told first is thrown");
        HungFaces x = three();
        x.hand(2, 0);
        Check.refused(x, "person", Check.INDEX, () -> x.person(3, 6));
        Check.refused(x, "face", Check.INDEX, () -> x.face(-1, 4));
        Check.refused(x, "thinks", Check.INDEX, () -> x.thinks(3, 3));
        Check.refused(x, "hand: no HOOK, WEARS none", Check.INDEX, () -> x.hand(2, 6));
        Check.refused(x, "hand: no PERSON, a FACE hangs there", Check.INDEX, () -> x.hand(3, 0));
        Check.refused(x, "mix", Check.INDEX, () -> x.mix(3, 3));
        Check.refused(x, "mix without TICKETS", Check.ARGUMENT, () -> x.mix(1, 1));
        Check.refused(x, "steal: no HOOK, WEARS one", Check.INDEX, () -> x.steal(0, 6));
        Check.refused(x, "steal: no PERSON, none hangs there", Check.INDEX, () -> x.steal(3, 1));
        Check.refused(x, "change", Check.INDEX, () -> x.change(-1, -1));
        Check.refused(x, "change without a FACE", Check.ARGUMENT, () -> x.change(2, 2));
        Check.refused(x, "shave", Check.INDEX, () -> x.shave(3, 2));
        Check.refused(x, "graft: no MARK, both are one", Check.INDEX, () -> x.graft(0, 0, 8));
        Check.refused(x, "graft: no FACE, both are one", Check.INDEX, () -> x.graft(3, 3, 0));
        Check.refused(x, "graft: no MARK, no FACE", Check.INDEX, () -> x.graft(0, 3, -1));
        Check.refused(x, "graft: both are one, which has it not", Check.ARGUMENT, () -> x.graft(0, 0, 7));
        Check.refused(x, "graft: both are one, which has it", Check.ARGUMENT, () -> x.graft(0, 0, 0));
        Check.refused(x, "meet", Check.INDEX, () -> x.meet(3, 3));
        Check.refused(x, "chain", Check.INDEX, () -> x.chain(3, 3));
        Check.refused(x, "hears", Check.INDEX, () -> x.hears(3, 21));
        Check.tape(x, 9, 9);
        Check.refused(x, "fits", Check.INDEX, () -> x.fits(3));
        Check.tape(x, 9, 9);
        Check.refused(x, "ask", Check.INDEX, () -> x.ask(3));
        Check.sentence("Terms", "a call that throws changes nothing but the TAPE, where it is used up.");
        x.end(0);
        x.feed(1, 2, 3, 4, 5);
        Check.throwsDue("hand", Check.STATE, () -> x.hand(2, 0));
        Check.throwsDue("person", Check.INDEX, () -> x.person(3, 0));
        Check.throwsDue("hours", Check.ARGUMENT, () -> x.hours(0));
        Check.throwsDue("log", Check.NO_ELEMENT, () -> x.log(0, 5));
        Check.due("not used up", x.end(20), true);
        Check.Call[] using = {x::door, x::law, () -> x.fits(NONE), () -> x.ask(0), x::clash, () -> x.fits(3),
            () -> x.ask(-1)};
        for (int i = 0; i < using.length; i++) {
            x.feed(-1, -1, -1, -1, -1);
            String before = Check.seen(x);
            Check.due("it throws " + i, Check.thrownBy(using[i]).isEmpty(), false);
            Check.due("nothing else changes " + i, Check.seen(x).equals(before), true);
            Check.due("used up " + i, x.end(1), false);
        }
        Check.due("what was done can be undone", x.count(11), 1);
        everyCallWithoutOne(three());
        Check.sentence("Terms", "IllegalArgumentException: a number is none, or two are one.");
        Check.refused(x, "two are one", Check.ARGUMENT, () -> x.thinks(0, 0));
        Check.refused(x, "a number is none", Check.ARGUMENT, () -> x.hours(51));
        Check.sentence("Terms", "IllegalStateException: it cannot be.");
        Check.refused(x, "fetch", Check.STATE, () -> x.fetch(0));
        Check.sentence("Terms", "Sets are bits; of none they count for nothing.");
        HungFaces y = Check.crowd(3);
        Check.door(y, "wish 0 1;wish 1 0");
        Check.due("of none", y.block(-8), false);
        Check.due("of none and of some", y.block(-5), true);
        Check.due("the highest bit alone", y.block(LEAST), false);
        Check.due("with bits of none", y.block(MOST), true);
        y.hand(2, 0);
        Check.due("none of those WEARS none", y.block(-5), true);
        Check.refused(y, "one of these WEARS none", Check.STATE, () -> y.block(-4) ? 1 : 0);
        HungFaces ten = Check.crowd(10);
        Check.due("bit 10 is of none", ten.block(1024), false);
    }

    private static void everyCallWithoutOne(HungFaces x) {
        Check.sentence("Terms", "IndexOutOfBoundsException: there is no such PERSON, FACE, HOOK, MARK.");
        int[] none = NO_PERSON_OF_THREE;
        refusedOf(x, "person", Check.INDEX, none, n -> x.person(n, 0));
        refusedOf(x, "face", Check.INDEX, none, n -> x.face(n, 0));
        refusedOf(x, "wish", Check.INDEX, none, n -> x.wish(n, 0));
        refusedOf(x, "thinks", Check.INDEX, none, n -> x.thinks(n, 0));
        refusedOf(x, "thinks of", Check.INDEX, none, n -> x.thinks(0, n));
        refusedOf(x, "hand", Check.INDEX, none, n -> x.hand(n, 0));
        refusedOf(x, "fetch", Check.INDEX, none, n -> x.fetch(n));
        refusedOf(x, "mix", Check.INDEX, none, n -> x.mix(n, 0));
        refusedOf(x, "mix with", Check.INDEX, none, n -> x.mix(0, n));
        refusedOf(x, "steal", Check.INDEX, none, n -> x.steal(n, 0));
        refusedOf(x, "change", Check.INDEX, none, n -> x.change(n, 0));
        refusedOf(x, "change with", Check.INDEX, none, n -> x.change(0, n));
        refusedOf(x, "shave", Check.INDEX, none, n -> x.shave(n, 0));
        refusedOf(x, "graft", Check.INDEX, none, n -> x.graft(n, 0, 0));
        refusedOf(x, "graft to", Check.INDEX, none, n -> x.graft(0, n, 1));
        refusedOf(x, "meet", Check.INDEX, none, n -> x.meet(n, 0));
        refusedOf(x, "meet with", Check.INDEX, none, n -> x.meet(0, n));
        refusedOf(x, "core", Check.INDEX, none, n -> x.core(n));
        refusedOf(x, "ask", Check.INDEX, none, n -> x.ask(n));
        refusedOf(x, "fits", Check.INDEX, new int[] {-2, 3, 10, MOST, LEAST}, n -> x.fits(n));
        refusedOf(x, "chain", Check.INDEX, none, n -> x.chain(n, 0));
        refusedOf(x, "chain to", Check.INDEX, none, n -> x.chain(0, n));
        refusedOf(x, "hears", Check.INDEX, none, n -> x.hears(n, 1));
        refusedOf(x, "led", Check.INDEX, none, n -> x.led(n, true));
        refusedOf(x, "led", Check.INDEX, none, n -> x.led(n, false));
        refusedOf(x, "hook", Check.INDEX, NO_HOOK_OF_SIX, n -> x.hook(n));
        refusedOf(x, "hand", Check.INDEX, NO_HOOK_OF_SIX, n -> x.hand(0, n));
        refusedOf(x, "steal", Check.INDEX, NO_HOOK_OF_SIX, n -> x.steal(0, n));
        refusedOf(x, "talk", Check.INDEX, NO_HOOK_OF_SIX, n -> x.talk(n));
        refusedOf(x, "shave", Check.INDEX, NO_MARK, n -> x.shave(2, n));
        refusedOf(x, "graft", Check.INDEX, NO_MARK, n -> x.graft(2, 0, n));
    }

    private static void person() {
        Check.sentence("Promise 7", "Of a PERSON what 0 MARKS of the MASK, as bits, 1 WEARS, 2 TICKET, 3 SPOUSE"
                + " (1 to 3: NONE), 4 KNOWS, 5 RING, as bits.");
        HungFaces x = three();
        int[] first = {1, 0, NONE, 2, 0, 1};
        for (int what = 0; what < 6; what++) {
            Check.due("person(0, " + what + ")", x.person(0, what), first[what]);
        }
        Check.due("no SPOUSE", x.person(1, 3), NONE);
        x.hand(0, 5);
        Check.due("WEARS none", x.person(0, 1), NONE);
        Check.due("TICKET", x.person(0, 2), 5);
        Check.due("nobody KNOWN", x.person(0, 4), 0);
        Check.due("oneself in the RING", x.person(0, 5), 1);
        Check.sentence("Promise 7", "NoSuchElementException: another what.");
        refusedOf(x, "person 0", Check.NO_ELEMENT, new int[] {-1, 6, 7, MOST, LEAST}, n -> x.person(0, n));
        refusedOf(x, "person 2", Check.NO_ELEMENT, new int[] {-1, 6}, n -> x.person(2, n));
    }

    private static void face() {
        Check.sentence("Promise 8", "Of a FACE what 0 MARKS, as bits, 1 who WEARS it, 2 the HOOK (1, 2: NONE),"
                + " 3 others ALIKE, as bits.");
        HungFaces x = Check.opened("person 11111111 00000000;person 00000000 00000000;person 00000000 00000000;"
                + "person 11111111 00000000;person 11111111 00000000;person 11111110 00000000");
        int[] first = {255, 0, NONE, 24};
        for (int what = 0; what < 4; what++) {
            Check.due("face(0, " + what + ")", x.face(0, what), first[what]);
        }
        Check.due("without MARKS", x.face(1, 0), 0);
        Check.due("ALIKE without MARKS", x.face(1, 3), 4);
        Check.due("unlike by one MARK", x.face(5, 3), 0);
        Check.due("not oneself", x.face(4, 3), 9);
        x.hand(0, 0);
        Check.due("who WEARS it", x.face(0, 1), NONE);
        Check.due("HOOK 0", x.face(0, 2), 0);
        Check.due("ALIKE on a HOOK", x.face(3, 3), 17);
        Check.sentence("Promise 8", "NoSuchElementException: another what.");
        refusedOf(x, "face 0", Check.NO_ELEMENT, new int[] {-1, 4, 5, MOST, LEAST}, n -> x.face(0, n));
    }

    private static void hookAndWish() {
        Check.sentence("Promise 9", "The FACE on a HOOK; NONE.");
        HungFaces x = three();
        x.hand(0, 0);
        x.hand(2, 5);
        Check.due("the first", x.hook(0), 0);
        Check.due("the last", x.hook(5), 2);
        Check.due("none", x.hook(1), NONE);
        refusedOf(x, "hook", Check.INDEX, NO_HOOK_OF_SIX, n -> x.hook(n));
        Check.sentence("Promise 10", "The k-th of one's WISHES (from 0 on); NONE.");
        Check.rightDoor(x, "wish 1 2 1");
        Check.due("the 0th", x.wish(1, 0), 2);
        Check.due("the last", x.wish(1, 2), 0);
        int[] none = {-1, 3, 9, 10, MOST, LEAST};
        for (int k : none) {
            Check.due("the " + k + "th", x.wish(1, k), NONE);
            Check.due("the " + k + "th of the last one", x.wish(2, k), NONE);
        }
        refusedOf(x, "wish", Check.INDEX, NO_PERSON_OF_THREE, n -> x.wish(n, 0));
        refusedOf(x, "wish without a k", Check.INDEX, NO_PERSON_OF_THREE, n -> x.wish(n, -1));
    }

    private static void thinks() {
        Check.sentence("Promise 11",
                "What one THINKS that another one KNOWS, as bits. IllegalArgumentException: both are one.");
        HungFaces x = three();
        Check.due("nothing", x.thinks(2, 0), 0);
        x.meet(0, 2);
        Check.due("of the one", x.thinks(2, 0), 4);
        Check.due("of the other one", x.thinks(0, 2), 1);
        Check.due("of a third one", x.thinks(0, 1), 0);
        Check.refused(x, "both are one", Check.ARGUMENT, () -> x.thinks(0, 0));
        Check.refused(x, "both are the last one", Check.ARGUMENT, () -> x.thinks(2, 2));
        Check.refused(x, "both are none", Check.INDEX, () -> x.thinks(3, 3));
    }

    private static void hand() {
        Check.sentence("Promise 12", "HANDED in: the FACE. IllegalStateException: one WEARS none,"
                + " or has a TICKET, or a FACE hangs there.");
        HungFaces x = three();
        Check.due("the FACE", x.hand(2, 5), 2);
        Check.refused(x, "one WEARS none, and has a TICKET", Check.STATE, () -> x.hand(2, 0));
        Check.refused(x, "a FACE hangs there", Check.STATE, () -> x.hand(0, 5));
        Check.due("at the first HOOK", x.hand(0, 0), 0);
        x.steal(0, 5);
        Check.refused(x, "one has a TICKET", Check.STATE, () -> x.hand(0, 1));
        Check.due("none hangs at the TICKET", x.fetch(2), NONE);
        Check.refused(x, "one WEARS none", Check.STATE, () -> x.hand(2, 1));
        Check.due("a HOOK whose TICKET was given up", x.hand(1, 5), 1);
        HungFaces y = three();
        y.hand(0, 3);
        y.hand(1, 4);
        y.steal(1, 3);
        Check.due("a HOOK without a FACE whose TICKET is out", y.hand(2, 3), 2);
        Check.due("two TICKETS of one HOOK", y.person(0, 2), 3);
        Check.due("two TICKETS of one HOOK", y.person(2, 2), 3);
    }

    private static void fetch() {
        Check.sentence("Promise 13", "FETCHED: the FACE; NONE. IllegalStateException: one has no TICKET,"
                + " or WEARS a FACE.");
        HungFaces x = three();
        Check.refused(x, "one has no TICKET, and WEARS a FACE", Check.STATE, () -> x.fetch(0));
        x.hand(0, 0);
        Check.due("the FACE", x.fetch(0), 0);
        x.hand(0, 0);
        x.hand(1, 1);
        x.steal(1, 0);
        Check.refused(x, "one WEARS a FACE", Check.STATE, () -> x.fetch(1));
        Check.due("NONE", x.fetch(0), NONE);
        Check.refused(x, "one has no TICKET", Check.STATE, () -> x.fetch(0));
        Check.due("NONE is an ACT", x.undo(), true);
        Check.due("the TICKET is back", x.person(0, 2), 0);
        HungFaces two = three();
        two.hand(0, 3);
        two.hand(1, 4);
        two.steal(1, 3);
        two.hand(2, 3);
        Check.due("two TICKETS of one HOOK: the first who comes", two.fetch(0), 2);
        Check.due("then none", two.fetch(2), NONE);
    }

    private static void mix() {
        Check.sentence("Promise 14", "TICKETS change: the HOOK of the first one's then. IllegalArgumentException:"
                + " both are one; IllegalStateException: one has none.");
        HungFaces x = three();
        x.hand(0, 5);
        Check.refused(x, "the other has none", Check.STATE, () -> x.mix(0, 2));
        Check.refused(x, "the first has none", Check.STATE, () -> x.mix(2, 0));
        Check.refused(x, "both are one that has one", Check.ARGUMENT, () -> x.mix(0, 0));
        Check.refused(x, "both are one that has none", Check.ARGUMENT, () -> x.mix(2, 2));
        x.hand(2, 0);
        Check.due("the first one's", x.mix(2, 0), 5);
        Check.due("the other one's", x.person(0, 2), 0);
        Check.due("and back", x.mix(2, 0), 0);
        x.steal(0, 0);
        x.hand(1, 0);
        Check.due("of one who WEARS a FACE", x.mix(0, 2), 0);
        Check.due("two of one HOOK", x.mix(0, 1), 0);
        Check.due("each is an ACT", x.count(11), 8);
    }

    private static void steal() {
        Check.sentence("Promise 15", "STOLEN: the FACE. IllegalStateException: one WEARS a FACE,"
                + " or none hangs there.");
        HungFaces x = three();
        x.hand(2, 5);
        Check.refused(x, "one WEARS a FACE", Check.STATE, () -> x.steal(0, 5));
        Check.refused(x, "none hangs there", Check.STATE, () -> x.steal(2, 4));
        Check.refused(x, "both", Check.STATE, () -> x.steal(0, 4));
        Check.due("one's own", x.steal(2, 5), 2);
        Check.refused(x, "none hangs there any more", Check.STATE, () -> x.steal(2, 5));
        x.hand(0, 0);
        x.hand(1, 1);
        x.steal(1, 0);
        x.fetch(0);
        Check.due("by one without a TICKET", x.steal(0, 1), 1);
        Check.due("who has none still", x.person(0, 2), NONE);
        Check.due("whose it was has it still", x.person(1, 2), 1);
    }

    private static void change() {
        Check.sentence("Promise 16", "FACES change: the one that the first one WEARS then. IllegalArgumentException:"
                + " both are one; IllegalStateException: one WEARS none.");
        HungFaces x = three();
        Check.due("the first one WEARS", x.change(2, 0), 0);
        Check.due("the other one WEARS", x.person(0, 1), 2);
        Check.due("and back", x.change(2, 0), 2);
        Check.refused(x, "both are one", Check.ARGUMENT, () -> x.change(1, 1));
        x.hand(1, 0);
        Check.refused(x, "the first WEARS none", Check.STATE, () -> x.change(1, 0));
        Check.refused(x, "the other WEARS none", Check.STATE, () -> x.change(0, 1));
        Check.refused(x, "both are one that WEARS none", Check.ARGUMENT, () -> x.change(1, 1));
        x.hand(0, 1);
        Check.refused(x, "both WEAR none", Check.STATE, () -> x.change(1, 0));
    }

    private static void shave() {
        Check.sentence("Promise 17", "SHAVED: how many MARKS it has then. IllegalStateException:"
                + " it has not that MARK.");
        HungFaces x = three();
        for (int mark = 7; mark >= 0; mark--) {
            Check.due("MARK " + mark, x.shave(2, mark), mark);
            int gone = mark;
            Check.refused(x, "it has not MARK " + mark, Check.STATE, () -> x.shave(2, gone));
        }
        Check.due("none left", x.face(2, 0), 0);
        Check.refused(x, "it never had it", Check.STATE, () -> x.shave(0, 2));
        x.hand(1, 0);
        Check.due("of a FACE on a HOOK", x.shave(1, 7), 1);
    }

    private static void graft() {
        Check.sentence("Promise 18", "GRAFTED: how many MARKS the latter has then. IllegalArgumentException:"
                + " both are one; IllegalStateException: the first has it not, or the latter has it.");
        HungFaces x = three();
        Check.refused(x, "the latter has it", Check.STATE, () -> x.graft(2, 0, 0));
        Check.refused(x, "the first has it not", Check.STATE, () -> x.graft(0, 1, 5));
        Check.refused(x, "the first has it not, and the latter has it", Check.STATE, () -> x.graft(0, 2, 5));
        Check.refused(x, "both are one", Check.ARGUMENT, () -> x.graft(2, 2, 5));
        Check.due("MARK 7", x.graft(2, 0, 7), 3);
        Check.due("the latter", x.face(0, 0), 131);
        Check.due("the first", x.face(2, 0), 127);
        Check.due("MARK 0 back", x.graft(0, 2, 7), 8);
        x.hand(2, 3);
        x.hand(0, 4);
        Check.due("both on HOOKS", x.graft(2, 0, 5), 3);
        HungFaces y = Check.opened("person 10000000 00000000;person 00000000 00000000");
        Check.due("MARK 0", y.graft(0, 1, 0), 1);
        Check.due("none left", y.face(0, 0), 0);
    }

    private static void meet() {
        Check.sentence("Promise 19", "A MEETING: whom either KNOWS then, both among them, as bits."
                + " IllegalArgumentException: both are one.");
        HungFaces x = Check.crowd(10);
        Check.due("the first and the last", x.meet(9, 0), 513);
        Check.due("again: the same", x.meet(9, 0), 513);
        Check.due("each is an ACT", x.count(11), 2);
        Check.refused(x, "both are one", Check.ARGUMENT, () -> x.meet(9, 9));
        for (int one = 1; one < 9; one++) {
            x.meet(0, one);
        }
        Check.due("all", x.meet(0, 9), 1023);
        Check.due("all others", x.person(0, 4), 1022);
        Check.due("all others", x.person(9, 4), 511);
    }

    private static void hours() {
        Check.sentence("Promise 20", "So many HOURS more (1 to 50): how often a FACE was HANDED in, or FETCHED."
                + " IllegalArgumentException: they are none.");
        HungFaces x = three();
        Check.law(x, "hand;fetch");
        refusedOf(x, "hours", Check.ARGUMENT, new int[] {0, -1, 51, 100, MOST, LEAST}, n -> x.hours(n));
        Check.due("1", x.hours(1), 3);
        Check.due("HOUR 1", x.count(5), 1);
        Check.due("50", x.hours(50), 150);
        Check.due("HOUR 51", x.count(5), 51);
        Check.due("two ACTS", x.count(11), 2);
        Check.law(x, "");
        Check.due("nothing happens", x.hours(2), 0);
        Check.due("an ACT all the same", x.count(11), 1);
        HungFaces y = three();
        y.hand(0, 0);
        y.hand(1, 1);
        y.steal(0, 1);
        Check.law(y, "fetch");
        Check.due("FETCHED where none hung", y.hours(1), 1);
    }
}
