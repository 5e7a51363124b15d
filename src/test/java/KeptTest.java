/** Promises 45 to 50: THE LOG, SEED, UNDONE, THE IMAGE, count. */
public final class KeptTest {
    private static final int NONE = HungFaces.NONE;

    public static void main(String[] args) {
        logging();
        seeding();
        undoing();
        undoingAll();
        imaging();
        counting();
        Check.close();
    }

    private static void logging() {
        HungFaces x = Check.crowd(3);
        Check.due("no row", x.log(0, 0), -99);
        Check.throwsDue("another what", Check.NO_ELEMENT, () -> x.log(0, 5));
        Check.throwsDue("what -1 without a row", Check.NO_ELEMENT, () -> x.log(99, -1));
        x.hours(7);
        x.hand(2, 4);
        int[] row = {7, 2, 4, 2, 0};
        for (int what = 0; what < 5; what++) {
            Check.due("row " + what, x.log(0, what), row[what]);
        }
        Check.due("no second row", x.log(1, 0), -99);
        Check.due("ago -1", x.log(-1, 0), -99);
        Check.due("ago most", x.log(Integer.MAX_VALUE, 4), -99);
        Check.due("ago least", x.log(Integer.MIN_VALUE, 4), -99);
        for (int i = 0; i < 60; i++) {
            Check.due("rows", x.count(10), Math.min(60, 1 + i * 2));
            x.fetch(2);
            x.hand(2, i % 6);
        }
        Check.due("60 rows", x.count(10), 60);
        Check.due("the latest", x.log(0, 2), 5);
        Check.due("the latest", x.log(0, 4), 0);
        Check.due("ahead of it", x.log(1, 4), 1);
        Check.due("the eldest", x.log(59, 4), 1);
        Check.due("the eldest", x.log(59, 2), 5);
        Check.due("beyond", x.log(60, 4), -99);
    }

    private static void seeding() {
        HungFaces x = Check.crowd(2);
        Check.due("seed", x.seed(-5), 1);
        Check.due("seed", x.seed(9), -5);
        x.hours(1);
        int want = 9;
        for (int i = 0; i < 2; i++) {
            want = 1103515245 * want + 12345;
        }
        Check.due("seed after an hour", x.seed(3), want);
        Check.due("seed is no act", x.count(11), 1);
        x.undo();
        Check.due("undone with the hour", x.seed(1), 9);
    }

    private static void undoing() {
        HungFaces x = Check.crowd(4);
        Check.due("nothing to undo", x.undo(), false);
        for (int i = 0; i < 13; i++) {
            x.change(0, 1);
            Check.due("acts", x.count(11), Math.min(12, i + 1));
        }
        for (int i = 0; i < 12; i++) {
            Check.due("undo", x.undo(), true);
        }
        Check.due("12 are remembered", x.undo(), false);
        Check.due("one stays done", x.person(0, 1), 1);
        x.hand(0, 2);
        x.undo();
        x.hand(0, 3);
        Check.due("acts behind an undone one", x.count(11), 1);
        x.image();
        Check.tape(x, "mix");
        Check.throwsDue("wrong text", Check.ARGUMENT, x::door);
        Check.due("undo past a wrong text", x.undo(), true);
        Check.due("fault stays", x.fault(), 3);
        Check.due("the image stays", x.back(), true);
        Check.due("of the image", x.hook(3), 1);
        Check.due("going back forgets", x.undo(), false);
        x.feed(1, 2, 3, 4, 5);
        x.fetch(0);
        x.undo();
        Check.due("the tape stays", x.end(20), true);
    }

    /** Each ACT, undone, leaves all as it was ahead of it. */
    private static void undoingAll() {
        HungFaces x = Check.crowd(5);
        Check.door(x, "mix 50;thief 50;knows 0 1;knows 1 2");
        Check.law(x, "hand if who>2;fetch if hour>2");
        x.shave(3, 0);
        x.hand(0, 4);
        x.hand(1, 1);
        Check.Call[] acts = {
            () -> x.hand(2, 0), () -> x.fetch(1), () -> x.mix(0, 1), () -> x.steal(0, 1), () -> x.change(3, 2),
            () -> x.shave(3, 1), () -> x.graft(4, 3, 2), () -> x.meet(1, 0), () -> x.hours(50),
        };
        for (int i = 0; i < acts.length; i++) {
            String before = Check.seen(x);
            acts[i].make();
            Check.due("act " + i + " does something", Check.seen(x).equals(before), false);
            Check.due("act " + i + " undone", x.undo(), true);
            Check.due("all as ahead of act " + i, Check.seen(x).equals(before), true);
        }
    }

    private static void imaging() {
        HungFaces x = Check.crowd(4);
        Check.due("no image", x.back(), false);
        Check.law(x, "hand if who<1");
        x.hand(2, 1);
        x.seed(12);
        String before = Check.seen(x);
        x.image();
        Check.due("image forgets nothing", x.count(11), 1);
        x.undo();
        Check.door(x, "person 11111111 11111111;hooks 9;mix 4;thief 5;wed 0 1;wish 0 3;knows 0 1");
        Check.law(x, "");
        x.hours(5);
        x.meet(0, 1);
        x.feed(0, 0, 0, 0, 0);
        Check.due("back", x.back(), true);
        Check.due("no acts", x.count(11), 0);
        Check.due("the tape stays", x.end(20), true);
        x.end(0);
        x.hours(1);
        x.undo();
        Check.due("law is back", x.count(4), 1);
        Check.due("texts are back", x.count(3), 1);
        String after = Check.seen(x);
        // The counts come first in what is seen; the acts that can be undone were 1 and are forgotten.
        Check.due("all is back", after.substring(after.indexOf(",")), before.substring(before.indexOf(",")));
        x.hours(3);
        Check.due("back again", x.back(), true);
        Check.due("hour", x.count(5), 0);
        x.hand(0, 0);
        x.image();
        x.undo();
        Check.due("the later image", x.back(), true);
        Check.due("of the later image", x.hook(0), 0);
    }

    private static void counting() {
        HungFaces x = Check.opened("person 11100000 00000000;person 00000001 00000000;person 00000000 11111111;"
                + "hooks 8;mix 3;thief 4");
        Check.law(x, "hand if who>4;fetch if who>4");
        x.hours(2);
        x.hand(1, 7);
        x.hand(2, 0);
        x.shave(0, 2);
        int[] want = {3, 8, 2, 1, 2, 2, 3, 4, 6, 3, 2, 4};
        for (int what = 0; what < want.length; what++) {
            Check.due("count " + what, x.count(what), want[what]);
        }
        Check.due("count 12", x.count(12), NONE);
        Check.due("count -1", x.count(-1), NONE);
        x.steal(1, 7);
        Check.due("who has a ticket", x.count(8), 6);
        Check.due("faces that hang", x.count(2), 1);
    }
}
