/** Promises 21 to 44: all that is asked of faces, people, hooks, tickets, what is said, and trials. */
public final class AsksTest {
    private static final int NONE = HungFaces.NONE;

    public static void main(String[] args) {
        wrongAndLost();
        swapping();
        saving();
        marking();
        masks();
        passing();
        trading();
        blocking();
        saying();
        asking();
        clashing();
        queueing();
        forging();
        waysBack();
        talking();
        chains();
        hearing();
        trials();
        leading();
        Check.close();
    }

    private static void wrongAndLost() {
        HungFaces x = Check.crowd(4);
        Check.due("wrong", x.wrong(), 0);
        x.change(0, 3);
        Check.due("wrong of two", x.wrong(), 9);
        x.hand(0, 1);
        Check.due("who wears none is not wrong", x.wrong(), 8);
        Check.due("lost", x.lost(), 0);
        Check.due("unclaimed", x.unclaimed(), 0);
        x.hand(1, 2);
        x.steal(0, 2);
        Check.due("stolen is not lost", x.lost(), 0);
        x.fetch(1);
        Check.due("a face at a hook with a ticket", x.unclaimed(), 0);
        Check.due("wrong by a thief", x.wrong(), 9);
    }

    private static void swapping() {
        HungFaces x = Check.crowd(5);
        Check.due("all have their own", x.swaps(), 0);
        x.change(0, 1);
        Check.due("two for one swap", x.swaps(), 1);
        x.change(1, 2);
        Check.due("three for two swaps", x.swaps(), 2);
        x.change(3, 4);
        Check.due("and two more", x.swaps(), 3);
        x.hand(3, 5);
        Check.due("a chain with a hook", x.swaps(), 2 + 2);
        x.hand(0, 4);
        Check.due("both on hooks", x.swaps(), 3 + 2);
        HungFaces y = Check.crowd(1);
        y.hand(0, 0);
        Check.due("only hung", y.swaps(), 1);
    }

    private static void saving() {
        HungFaces x = Check.crowd(5);
        Check.door(x, "wed 0 3;wed 1 2");
        Check.due("none saved", x.saved(), 0);
        x.change(0, 3);
        Check.due("two saved", x.saved(), 9);
        x.change(1, 2);
        Check.due("four saved", x.saved(), 15);
        x.change(1, 4);
        Check.due("only one side", x.saved(), 9);
        x.hand(3, 0);
        Check.due("only one side wears", x.saved(), 0);
    }

    private static void marking() {
        HungFaces x = Check.opened("person 10000000 00000000");
        Check.due("one face needs none", x.marks(), 0);
        Check.door(x, "person 01010001 00000000");
        Check.due("the least of several", x.marks(), 1);
        Check.door(x, "person 11000000 00000000");
        Check.due("two marks", x.marks(), 3);
        x.shave(2, 0);
        x.shave(1, 1);
        Check.due("others", x.marks(), 3);
        x.graft(0, 1, 0);
        Check.due("again others", x.marks(), 3);
        x.shave(2, 1);
        Check.due("alike", x.marks(), NONE);
        StringBuilder text = new StringBuilder("person 00000000 00000000");
        for (int mark = 0; mark < 8; mark++) {
            text.append(";person ").append(Check.figures(1 << mark)).append(" 00000000");
        }
        Check.due("all marks", Check.opened(text.toString()).marks(), 255);
    }

    private static void masks() {
        HungFaces x = Check.opened("person 00000000 10000000;person 00000000 01000000;person 00000000 10000000");
        Check.due("unknown", x.unknown(), 5);
        Check.door(x, "person 11111111 01000000;person 11111111 00000000");
        Check.due("more unknown", x.unknown(), 15);
        HungFaces y = Check.opened("person 00000000 10000000;person 00000000 01000000;person 00000000 01000000");
        Check.due("the first is known", y.unknown(), 6);
    }

    private static void passing() {
        HungFaces x = Check.crowd(8);
        Check.due("just 5", x.passes(5, 0), 32);
        Check.due("by one", x.passes(5, 1), 32 | 16 | 2 | 128);
        Check.due("by all", x.passes(255, 8), 255);
        Check.due("by five", x.passes(255, 5), 128);
        Check.throwsDue("marks 256", Check.ARGUMENT, () -> x.passes(256, 0));
        Check.throwsDue("marks -1", Check.ARGUMENT, () -> x.passes(-1, 0));
        Check.throwsDue("n 9", Check.ARGUMENT, () -> x.passes(0, 9));
        Check.throwsDue("n -1", Check.ARGUMENT, () -> x.passes(0, -1));
        x.change(0, 1);
        Check.due("by one's own face", x.passes(0, 0), 1);
    }

    private static void trading() {
        HungFaces x = Check.crowd(4);
        Check.door(x, "wish 0 1 2;wish 1 2;wish 2 0 3;wish 3 0 3");
        int[] gets = {1, 2, 0, 3};
        for (int one = 0; one < 4; one++) {
            Check.due("core of " + one, x.core(one), gets[one]);
        }
        Check.due("gains", x.gains(), 3);
        x.hand(1, 0);
        Check.due("brought none", x.core(1), NONE);
        Check.due("0 gets 2", x.core(0), 2);
        Check.due("2 gets 0", x.core(2), 0);
        Check.due("two gain", x.gains(), 2);
        // Who brought another one's FACE gives that one.
        x.change(0, 3);
        Check.due("3 has it", x.core(3), 0);
        Check.due("0 has 3's, and wants 1, 2, 0", x.core(0), 2);
        Check.due("2 gets what 0 brought", x.core(2), 3);
        HungFaces y = Check.crowd(10);
        for (int one = 0; one < 10; one++) {
            Check.due("core of ten", y.core(one), one);
        }
        Check.due("none of ten gains", y.gains(), 0);
        Check.due("none of ten could do better", y.block(1023), false);
        Check.throwsDue("core of none", Check.INDEX, () -> x.core(4));
        Check.throwsDue("core of -1", Check.INDEX, () -> x.core(-1));
    }

    private static void blocking() {
        HungFaces x = Check.crowd(4);
        Check.door(x, "wish 0 1;wish 1 2;wish 2 0;wish 3 3");
        Check.due("a ring of three", x.block(7), true);
        Check.due("with one more", x.block(15), true);
        Check.due("0 and 2 alone: 0 wants 1, then 0", x.block(5), false);
        Check.due("one alone", x.block(2), false);
        Check.due("nobody", x.block(0), false);
        Check.due("none count for nothing", x.block(-16), false);
        Check.due("all bits", x.block(-1), true);
        x.hand(1, 0);
        Check.throwsDue("one wears none", Check.STATE, () -> x.block(7) ? 1 : 0);
        Check.due("one outside wears none", x.block(13), false);
    }

    private static void saying() {
        HungFaces x = Check.crowd(4);
        Check.due("none told", x.fits(-1), 24);
        Check.tape(x, 0, 1, 1);
        Check.due("one is", x.fits(-1), 6);
        Check.tape(x, 0, 1, 0);
        Check.due("one is not", x.fits(-1), 18);
        Check.due("used up", x.end(1), false);
        Check.tape(x, 0, 1, 0, 0, 2, 0, 0, 3, 0);
        Check.due("only one is left", x.fits(0), 0);
        Check.tape(x, 0, 1, 0, 0, 2, 0);
        Check.due("two are left", x.fits(0), NONE);
        Check.tape(x, 0, 1, 1, 1, 1, 1);
        Check.due("cannot be", x.fits(0), NONE);
        Check.tape(x, 0, 1, 1, 1, 1, 1);
        Check.due("no owners", x.fits(-1), 0);
        Check.tape(x, 1, 0, 1, 2, 3, 1, 3, 1, 1);
        Check.due("by what the others have", x.fits(0), 2);
        wrongTape(x, 4, 0, 1);
        wrongTape(x, 0, 4, 1);
        wrongTape(x, 0, 0, 2);
        wrongTape(x, 0, 0, 255);
        wrongTape(x, 255, 0, 1);
        wrongTape(x, 0);
        wrongTape(x, 0, 1, 1, 2);
        int[] most = new int[39];
        wrongTape(x, most);
        Check.tape(x, java.util.Arrays.copyOf(most, 36));
        Check.due("twelve", x.fits(-1), 18);
        Check.tape(x, 9, 9);
        Check.throwsDue("no such person comes first", Check.INDEX, () -> x.fits(4));
        Check.due("used up, too", x.end(1), false);
        Check.throwsDue("person -2", Check.INDEX, () -> x.fits(-2));
        Check.due("all of ten", Check.crowd(10).fits(-1), 3628800);
    }

    private static void wrongTape(HungFaces x, int... bytes) {
        Check.tape(x, bytes);
        Check.throwsDue("fits of a wrong tape", Check.ARGUMENT, () -> x.fits(-1));
        Check.due("used up", x.end(1), false);
        Check.tape(x, bytes);
        Check.throwsDue("ask of a wrong tape", Check.ARGUMENT, () -> x.ask(0));
        Check.due("used up", x.end(1), false);
        Check.tape(x, bytes);
        Check.throwsDue("clash of a wrong tape", Check.ARGUMENT, () -> x.clash());
        Check.due("used up", x.end(1), false);
    }

    private static void asking() {
        HungFaces x = Check.crowd(4);
        Check.due("all alike", x.ask(2), 0);
        Check.tape(x, 0, 1, 1);
        Check.due("not the one that is known", x.ask(1), 0);
        Check.tape(x, 0, 0, 1);
        Check.due("least that parts", x.ask(1), 1);
        Check.tape(x, 0, 0, 1, 1, 1, 1, 2, 2, 1);
        Check.due("only one", x.ask(3), NONE);
        Check.tape(x, 0, 0, 1, 1, 0, 1);
        Check.due("no owners", x.ask(3), NONE);
        Check.tape(x, 9, 9);
        Check.throwsDue("ask none", Check.INDEX, () -> x.ask(4));
        Check.due("used up, too", x.end(1), false);
        Check.throwsDue("ask -1", Check.INDEX, () -> x.ask(-1));
        // 1 has 3 in more OWNERS than others: 0 and 2 are not 3.
        Check.tape(x, 0, 3, 0, 2, 3, 0);
        Check.due("the nearest to a half", x.ask(1), 3);
    }

    private static void clashing() {
        HungFaces x = Check.crowd(3);
        Check.due("nothing said", x.clash(), 0);
        Check.tape(x, 0, 0, 1, 1, 1, 1, 2, 2, 1);
        Check.due("all can", x.clash(), 0);
        Check.tape(x, 0, 0, 1, 1, 1, 1, 2, 1, 1, 0, 0, 0);
        Check.due("the least of several", x.clash(), 6);
        Check.tape(x, 0, 0, 0, 0, 1, 0, 1, 1, 1, 0, 2, 0);
        Check.due("three of one", x.clash(), 11);
        Check.tape(x, 0, 0, 0, 0, 1, 0, 1, 2, 1);
        Check.due("two against one", x.clash(), 7);
        HungFaces y = Check.crowd(1);
        Check.tape(y, 0, 0, 1, 0, 0, 0);
        Check.due("one by itself", y.clash(), 2);
    }

    private static void queueing() {
        HungFaces x = Check.crowd(5);
        Check.due("nobody", x.queue(-1), 0);
        x.hand(0, 5);
        x.hand(1, 0);
        x.hand(3, 2);
        Check.due("minutes", x.queue(-1), 1 + 4 + 8);
        int[] order = {1, 3, 0, NONE};
        for (int k = 0; k < 4; k++) {
            Check.due("queue " + k, x.queue(k), order[k]);
        }
        Check.due("queue -2", x.queue(-2), NONE);
        Check.due("queue least", x.queue(Integer.MIN_VALUE), NONE);
        // Two TICKETS of one HOOK: by numbers.
        x.steal(1, 5);
        x.hand(4, 5);
        Check.due("two at one hook", x.queue(-1), 1 + 4 + 8 + 9);
        Check.due("the lesser first", x.queue(2), 0);
        Check.due("then the other", x.queue(3), 4);
    }

    private static void forging() {
        HungFaces x = Check.opened("person 11000000 00000000;person 01100000 00000000;person 00110000 00000000;"
                + "person 11110000 00000000");
        Check.due("nothing hangs", x.forged(1), NONE);
        Check.due("no marks", x.forged(0), 0);
        x.hand(0, 0);
        x.hand(1, 1);
        x.hand(2, 5);
        Check.due("two of three", x.forged(15), 5);
        Check.due("one of two", x.forged(2), 1);
        Check.due("the other", x.forged(4), 2);
        Check.due("not to be had", x.forged(16), NONE);
        x.hand(3, 3);
        Check.due("one for all", x.forged(15), 8);
        Check.throwsDue("marks 256", Check.ARGUMENT, () -> x.forged(256));
        Check.throwsDue("marks -1", Check.ARGUMENT, () -> x.forged(-1));
    }

    private static void waysBack() {
        HungFaces x = Check.crowd(10);
        Check.door(x, "hooks 12");
        Check.due("nobody", x.ways(0), 1);
        Check.due("nobody", x.ways(10), 0);
        for (int one = 0; one < 10; one++) {
            x.hand(one, one);
        }
        Check.due("none of ten", x.ways(0), 1334961);
        Check.due("one of ten", x.ways(1), 1334960);
        Check.due("eight of ten", x.ways(8), 45);
        Check.due("nine of ten", x.ways(9), 0);
        Check.due("ten of ten", x.ways(10), 1);
        Check.throwsDue("ways 11", Check.ARGUMENT, () -> x.ways(11));
        Check.throwsDue("ways -1", Check.ARGUMENT, () -> x.ways(-1));
    }

    private static void talking() {
        HungFaces x = Check.crowd(6);
        Check.due("no row", x.row(false), 0);
        Check.due("no row", x.row(true), NONE);
        x.hand(0, 0);
        x.hand(3, 1);
        x.hand(2, 4);
        x.hand(5, 5);
        Check.due("row of 0", x.talk(0), 9);
        Check.due("row of 1", x.talk(1), 9);
        Check.due("row of 2", x.talk(2), 0);
        Check.due("row of 5", x.talk(5), 36);
        Check.due("longest", x.row(false), 2);
        Check.due("the least of several", x.row(true), 0);
        x.hand(1, 3);
        Check.due("longest", x.row(false), 3);
        Check.due("its first", x.row(true), 3);
        Check.due("row of three", x.talk(4), 38);
        Check.throwsDue("talk 6", Check.INDEX, () -> x.talk(6));
        Check.throwsDue("talk -1", Check.INDEX, () -> x.talk(-1));
    }

    private static void chains() {
        HungFaces x = Check.crowd(5);
        Check.door(x, "knows 0 1;knows 1 2;knows 2 0 3");
        Check.due("one step", x.chain(0, 1), 1);
        Check.due("two steps", x.chain(0, 2), 2);
        Check.due("three steps", x.chain(0, 3), 3);
        Check.due("no way", x.chain(0, 4), NONE);
        Check.due("not back", x.chain(3, 0), NONE);
        Check.throwsDue("oneself", Check.ARGUMENT, () -> x.chain(4, 4));
        Check.throwsDue("to none", Check.INDEX, () -> x.chain(4, 5));
        Check.throwsDue("from none", Check.INDEX, () -> x.chain(-1, -1));
    }

    private static void hearing() {
        HungFaces x = Check.crowd(6);
        Check.door(x, "knows 0 1 2;knows 1 0;knows 2 0 5;knows 3 0");
        String before = Check.seen(x);
        Check.due("no round", x.hears(1, 0), 1);
        // 0 and 1, 0 and 2, then 1 and 2, who KNOW each other by then.
        Check.due("a round", x.hears(1, 1), 1 | 4 | 32);
        Check.due("a round of 0", x.hears(0, 1), 2 | 4 | 32);
        Check.due("one who is not known", x.hears(3, 20), 1);
        Check.due("one who knows nobody", x.hears(5, 20), 0);
        Check.due("nothing stays", Check.seen(x).equals(before), true);
        Check.throwsDue("21 rounds", Check.ARGUMENT, () -> x.hears(0, 21));
        Check.throwsDue("-1 rounds", Check.ARGUMENT, () -> x.hears(0, -1));
        Check.throwsDue("none hears", Check.INDEX, () -> x.hears(6, 21));
    }

    private static void trials() {
        for (int people = 2; people <= 10; people++) {
            HungFaces x = Check.crowd(people);
            Check.door(x, "mix " + (people * 9) + ";thief 30");
            Check.law(x, "hand if hour<1 or marks>1;fetch if hour>3");
            x.seed(77 + people);
            trialsOf(x, 77 + people);
        }
    }

    private static void trialsOf(HungFaces x, int now) {
        String before = Check.seen(x);
        x.image();
        for (int n = 0; n <= 30; n++) {
            int due = afterHours(x, n, now);
            Check.due("trial " + n, x.trial(n), due);
            int fewest = 10;
            int most = 0;
            for (int seed = 1; seed <= 6; seed++) {
                int wrong = afterHours(x, n, seed);
                fewest = Math.min(fewest, wrong);
                most = Math.max(most, wrong);
            }
            Check.due("span " + n, x.span(n, false), fewest);
            Check.due("span " + n, x.span(n, true), most);
        }
        Check.due("nothing stays", Check.seen(x).equals(before), true);
        Check.throwsDue("trial 31", Check.ARGUMENT, () -> x.trial(31));
        Check.throwsDue("trial -1", Check.ARGUMENT, () -> x.trial(-1));
        Check.throwsDue("span 31", Check.ARGUMENT, () -> x.span(31, true));
        Check.throwsDue("span -1", Check.ARGUMENT, () -> x.span(-1, false));
    }

    private static int afterHours(HungFaces x, int n, int seed) {
        x.seed(seed);
        if (n > 0) {
            x.hours(n);
        }
        int wrong = Integer.bitCount(x.wrong());
        x.back();
        return wrong;
    }

    private static void leading() {
        HungFaces x = Check.crowd(3);
        Check.due("no row", x.led(0, false), 0);
        Check.due("nobody", x.led(0, true), NONE);
        x.hand(0, 0);
        x.hand(1, 1);
        Check.due("handed in is not led", x.led(0, false), 0);
        x.mix(0, 1);
        x.fetch(1);
        Check.due("fetched", x.led(0, true), 1);
        x.steal(0, 1);
        Check.due("stolen", x.led(1, true), 0);
        x.hand(2, 5);
        Check.due("not fetched", x.led(2, false), 0);
        x.undo();
        HungFaces y = Check.crowd(2);
        for (int i = 0; i < 31; i++) {
            y.hand(0, 0);
            y.fetch(0);
        }
        Check.due("of the latest 60 rows", y.led(0, false), 30);
        Check.throwsDue("led none", Check.INDEX, () -> y.led(2, true));
        Check.throwsDue("led -1", Check.INDEX, () -> y.led(-1, false));
    }
}
