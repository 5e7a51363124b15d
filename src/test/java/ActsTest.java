/** Promises 7 to 20: person, face, hook, wish, thinks, and the ACTS up to hours. */
public final class ActsTest {
    private static final int NONE = HungFaces.NONE;

    public static void main(String[] args) {
        personAndFace();
        hookAndWish();
        thinking();
        handing();
        fetching();
        mixing();
        stealing();
        changing();
        shaving();
        grafting();
        meeting();
        hoursByLaw();
        hoursByDraws();
        Check.close();
    }

    private static HungFaces three() {
        return Check.opened("person 11000000 10000000;person 11000000 01000000;person 00100001 10000000;wed 0 2");
    }

    private static void personAndFace() {
        HungFaces x = three();
        int[] person = {1, 0, NONE, 2, 0, 1};
        int[] face = {3, 0, NONE, 2};
        for (int what = 0; what < 6; what++) {
            Check.due("person(0, " + what + ")", x.person(0, what), person[what]);
        }
        for (int what = 0; what < 4; what++) {
            Check.due("face(0, " + what + ")", x.face(0, what), face[what]);
        }
        Check.due("face(1, 3)", x.face(1, 3), 1);
        Check.due("face(2, 3)", x.face(2, 3), 0);
        Check.due("face(2, 0)", x.face(2, 0), 132);
        Check.due("person(1, 3)", x.person(1, 3), NONE);
        Check.refused(x, "person -1", Check.INDEX, () -> x.person(-1, 0));
        Check.refused(x, "person 3", Check.INDEX, () -> x.person(3, 9));
        Check.refused(x, "person what 6", Check.NO_ELEMENT, () -> x.person(0, 6));
        Check.refused(x, "person what -1", Check.NO_ELEMENT, () -> x.person(0, -1));
        Check.refused(x, "face 3", Check.INDEX, () -> x.face(3, 9));
        Check.refused(x, "face what 4", Check.NO_ELEMENT, () -> x.face(2, 4));
        Check.refused(x, "face what -1", Check.NO_ELEMENT, () -> x.face(2, -1));
        // 0 wears 1, 1 wears 2, 2 wears 0: from one's FACE to who WEARS it.
        x.change(0, 1);
        Check.due("ring of two", x.person(0, 5), 3);
        Check.due("ring of one", x.person(2, 5), 4);
        x.change(1, 2);
        Check.due("ring of three", x.person(1, 5), 7);
        Check.due("who wears 0", x.face(0, 1), 2);
        x.hand(2, 4);
        Check.due("open ring from 0", x.person(0, 5), 1);
        Check.due("open ring from 1", x.person(1, 5), 3);
        Check.due("open ring from 2", x.person(2, 5), 7);
        Check.due("face on a hook", x.face(0, 2), 4);
        Check.due("face worn by none", x.face(0, 1), NONE);
        Check.due("person wears none", x.person(2, 1), NONE);
        Check.due("person's ticket", x.person(2, 2), 4);
    }

    private static void hookAndWish() {
        HungFaces x = three();
        x.hand(1, 5);
        Check.due("hook 5", x.hook(5), 1);
        Check.due("hook 0", x.hook(0), NONE);
        Check.refused(x, "hook 6", Check.INDEX, () -> x.hook(6));
        Check.refused(x, "hook -1", Check.INDEX, () -> x.hook(-1));
        Check.due("wish by numbers", x.wish(2, 0), 0);
        Check.due("wish by numbers", x.wish(2, 2), 2);
        Check.due("wish for those who came later", x.wish(0, 1), 1);
        Check.due("wish for those who came later", x.wish(0, 2), 2);
        Check.due("wish 3", x.wish(2, 3), NONE);
        Check.due("wish -1", x.wish(2, -1), NONE);
        Check.refused(x, "wish of 3", Check.INDEX, () -> x.wish(3, 0));
        Check.refused(x, "wish of -1", Check.INDEX, () -> x.wish(-1, 0));
        Check.door(x, "wish 2 2 1;wish 2 1");
        Check.due("the later wish", x.wish(2, 0), 1);
        Check.due("the later wish", x.wish(2, 1), 0);
    }

    private static void thinking() {
        HungFaces x = three();
        Check.due("thinks nothing", x.thinks(0, 1), 0);
        Check.refused(x, "thinks of oneself", Check.ARGUMENT, () -> x.thinks(1, 1));
        Check.refused(x, "thinks of none", Check.INDEX, () -> x.thinks(1, 3));
        Check.refused(x, "thinks by none", Check.INDEX, () -> x.thinks(-1, -1));
    }

    private static void logged(HungFaces x, int ago, int... row) {
        for (int what = 0; what < row.length; what++) {
            Check.due("log(" + ago + ", " + what + ")", x.log(ago, what), row[what]);
        }
    }

    private static void handing() {
        HungFaces x = three();
        x.change(0, 1);
        Check.due("hand", x.hand(0, 3), 1);
        Check.due("hook has it", x.hook(3), 1);
        Check.due("wears none", x.person(0, 1), NONE);
        Check.due("ticket", x.person(0, 2), 3);
        logged(x, 0, 0, 0, 3, 1, 0);
        Check.refused(x, "hand by one without", Check.STATE, () -> x.hand(0, 0));
        Check.refused(x, "hand on a taken hook", Check.STATE, () -> x.hand(1, 3));
        Check.refused(x, "hand by none", Check.INDEX, () -> x.hand(3, 3));
        Check.refused(x, "hand on none", Check.INDEX, () -> x.hand(0, 6));
        Check.refused(x, "hand on -1", Check.INDEX, () -> x.hand(0, -1));
        x.steal(0, 3);
        Check.refused(x, "hand with a ticket", Check.STATE, () -> x.hand(0, 1));
        Check.due("acts", x.count(11), 3);
    }

    private static void fetching() {
        HungFaces x = three();
        Check.refused(x, "fetch without a ticket", Check.STATE, () -> x.fetch(0));
        Check.refused(x, "fetch by none", Check.INDEX, () -> x.fetch(3));
        Check.refused(x, "fetch by -1", Check.INDEX, () -> x.fetch(-1));
        x.hand(0, 2);
        x.hand(1, 4);
        Check.due("fetch", x.fetch(0), 0);
        Check.due("ticket given up", x.person(0, 2), NONE);
        Check.due("hook is free", x.hook(2), NONE);
        logged(x, 0, 0, 0, 2, 0, 1);
        x.hand(0, 0);
        x.steal(0, 4);
        Check.refused(x, "fetch by one who wears", Check.STATE, () -> x.fetch(0));
        Check.due("fetch none", x.fetch(1), NONE);
        Check.due("ticket of none given up", x.person(1, 2), NONE);
        logged(x, 0, 0, 1, 4, NONE, 1);
        Check.refused(x, "fetch again", Check.STATE, () -> x.fetch(1));
    }

    private static void mixing() {
        HungFaces x = three();
        x.hand(0, 2);
        Check.refused(x, "mix with one without", Check.STATE, () -> x.mix(0, 1));
        Check.refused(x, "mix by one without", Check.STATE, () -> x.mix(1, 0));
        x.hand(1, 4);
        Check.refused(x, "mix with oneself", Check.ARGUMENT, () -> x.mix(1, 1));
        Check.refused(x, "mix of oneself without", Check.ARGUMENT, () -> x.mix(2, 2));
        Check.refused(x, "mix with none", Check.INDEX, () -> x.mix(1, 3));
        Check.refused(x, "mix by none", Check.INDEX, () -> x.mix(-1, -1));
        Check.due("mix", x.mix(1, 0), 2);
        Check.due("first ticket", x.person(0, 2), 4);
        Check.due("other ticket", x.person(1, 2), 2);
        logged(x, 0, 0, 1, 2, NONE, 3);
        logged(x, 1, 0, 0, 4, NONE, 3);
        Check.due("rows", x.count(10), 4);
        Check.due("acts", x.count(11), 3);
    }

    private static void stealing() {
        HungFaces x = three();
        x.hand(0, 2);
        Check.refused(x, "steal by one who wears", Check.STATE, () -> x.steal(1, 2));
        Check.refused(x, "steal of a free hook", Check.STATE, () -> x.steal(0, 3));
        Check.refused(x, "steal by none", Check.INDEX, () -> x.steal(3, 2));
        Check.refused(x, "steal of no hook", Check.INDEX, () -> x.steal(0, 6));
        x.hand(1, 3);
        Check.due("steal", x.steal(1, 2), 0);
        Check.due("ticket stays", x.person(0, 2), 2);
        Check.due("own ticket stays", x.person(1, 2), 3);
        Check.due("thief wears", x.person(1, 1), 0);
        Check.due("hook is free", x.hook(2), NONE);
        logged(x, 0, 0, 1, 2, 0, 2);
        // Two TICKETS of one HOOK.
        x.hand(2, 2);
        Check.due("the first comes first", x.fetch(0), 2);
        Check.due("the other gets none", x.fetch(2), NONE);
    }

    private static void changing() {
        HungFaces x = three();
        Check.due("change", x.change(2, 0), 0);
        Check.due("other has it", x.person(0, 1), 2);
        Check.due("no row", x.count(10), 0);
        Check.refused(x, "change with oneself", Check.ARGUMENT, () -> x.change(1, 1));
        Check.refused(x, "change with none", Check.INDEX, () -> x.change(1, 3));
        x.hand(1, 0);
        Check.refused(x, "change of none", Check.STATE, () -> x.change(1, 0));
        Check.refused(x, "change for none", Check.STATE, () -> x.change(0, 1));
        Check.refused(x, "change with oneself first", Check.ARGUMENT, () -> x.change(1, 1));
    }

    private static void shaving() {
        HungFaces x = three();
        Check.due("shave", x.shave(2, 7), 1);
        Check.due("shaved", x.face(2, 0), 4);
        Check.due("marks together", x.count(9), 5);
        Check.refused(x, "shave again", Check.STATE, () -> x.shave(2, 7));
        Check.refused(x, "shave no mark", Check.INDEX, () -> x.shave(2, 8));
        Check.refused(x, "shave mark -1", Check.INDEX, () -> x.shave(2, -1));
        Check.refused(x, "shave no face", Check.INDEX, () -> x.shave(3, 0));
        x.hand(2, 0);
        Check.due("shave on a hook", x.shave(2, 2), 0);
        Check.due("mask stays", x.person(2, 0), 1);
    }

    private static void grafting() {
        HungFaces x = three();
        Check.due("graft", x.graft(0, 2, 1), 3);
        Check.due("from", x.face(0, 0), 1);
        Check.due("to", x.face(2, 0), 134);
        Check.refused(x, "graft what it has not", Check.STATE, () -> x.graft(0, 2, 1));
        Check.refused(x, "graft what the other has", Check.STATE, () -> x.graft(0, 1, 0));
        Check.refused(x, "graft to itself", Check.ARGUMENT, () -> x.graft(0, 0, 0));
        Check.refused(x, "graft of itself what it has not", Check.ARGUMENT, () -> x.graft(0, 0, 5));
        Check.refused(x, "graft no mark", Check.INDEX, () -> x.graft(0, 0, 8));
        Check.refused(x, "graft to none", Check.INDEX, () -> x.graft(0, 3, 0));
        Check.refused(x, "graft of none", Check.INDEX, () -> x.graft(-1, 0, 0));
    }

    private static void meeting() {
        HungFaces x = Check.crowd(5);
        Check.door(x, "knows 0 3;knows 1 0 4");
        Check.due("meet", x.meet(0, 1), 1 | 2 | 8 | 16);
        Check.due("0 knows", x.person(0, 4), 2 | 8 | 16);
        Check.due("1 knows", x.person(1, 4), 1 | 8 | 16);
        Check.due("0 thinks", x.thinks(0, 1), 1 | 8 | 16);
        Check.due("1 thinks", x.thinks(1, 0), 2 | 8 | 16);
        Check.due("3 knows nobody", x.person(3, 4), 0);
        Check.due("meet later", x.meet(2, 0), 31);
        Check.due("1 thinks as before", x.thinks(1, 0), 2 | 8 | 16);
        Check.due("2 thinks", x.thinks(2, 0), 30);
        Check.due("meet again", x.meet(2, 0), 31);
        Check.due("acts", x.count(11), 3);
        Check.refused(x, "meet oneself", Check.ARGUMENT, () -> x.meet(2, 2));
        Check.refused(x, "meet none", Check.INDEX, () -> x.meet(2, 5));
        Check.refused(x, "none meets", Check.INDEX, () -> x.meet(-1, -1));
    }

    private static void hoursByLaw() {
        HungFaces x = three();
        Check.refused(x, "hours 0", Check.ARGUMENT, () -> x.hours(0));
        Check.refused(x, "hours -1", Check.ARGUMENT, () -> x.hours(-1));
        Check.refused(x, "hours 51", Check.ARGUMENT, () -> x.hours(51));
        Check.due("hours without a law", x.hours(50), 0);
        Check.due("hour", x.count(5), 50);
        Check.door(x, "hooks 2");
        Check.law(x, "hand if hour>50;fetch if hour>51 and who<1");
        Check.due("not yet", x.hours(1), 0);
        Check.due("two hooks for three", x.hours(1), 2);
        Check.due("least hooks", x.hook(0), 0);
        Check.due("least hooks", x.hook(1), 1);
        logged(x, 0, 51, 1, 1, 1, 0);
        // 0 fetches at the free hook's cost: then 2 hands in there in the same hour.
        Check.due("fetch and hand", x.hours(1), 2);
        Check.due("hook 0 is of 2", x.hook(0), 2);
        logged(x, 1, 52, 0, 0, 0, 1);
        logged(x, 0, 52, 2, 0, 2, 0);
        Check.due("one act a call", x.count(11), 3);
        x.undo();
        Check.due("undone hours", x.hook(0), 0);
        Check.due("undone hour", x.count(5), 52);
        // One FETCHED none: it counts, and the TICKET is given up.
        HungFaces y = three();
        y.hand(0, 3);
        y.hand(1, 4);
        y.steal(0, 4);
        Check.law(y, "fetch");
        Check.due("fetched none", y.hours(1), 1);
        Check.due("ticket given up", y.person(1, 2), NONE);
        logged(y, 0, 0, 1, 4, NONE, 1);
    }

    private static int drawn(int seed) {
        return seed >>> 16 & 32767;
    }

    private static int after(int seed) {
        return 1103515245 * seed + 12345;
    }

    /** Follows MIX and THIEF draw by draw. */
    private static void hoursByDraws() {
        for (int start = -40; start < 40; start++) {
            HungFaces x = Check.crowd(6);
            Check.door(x, "mix 60;thief 70;hooks 8");
            int[] ticket = {7, NONE, 2, 4, NONE, 0};
            int[] marks = {0, 1, 2, 3, 4, 5};
            int[] hungFaces = {5, 2, 3, 0};
            for (int one = 0; one < 6; one++) {
                if (ticket[one] != NONE) {
                    x.hand(one, ticket[one]);
                }
            }
            x.seed(start * 7919 * 65537);
            int seed = start * 7919 * 65537;
            for (int hour = 0; hour < 20; hour++) {
                seed = after(seed);
                if (drawn(seed) % 100 < 60) {
                    int[] holders = {0, 2, 3, 5};
                    seed = after(seed);
                    int one = drawn(seed) % 4;
                    seed = after(seed);
                    int other = drawn(seed) % 3;
                    other = other >= one ? other + 1 : other;
                    int given = ticket[holders[one]];
                    ticket[holders[one]] = ticket[holders[other]];
                    ticket[holders[other]] = given;
                }
                seed = after(seed);
                if (drawn(seed) % 100 < 70) {
                    seed = after(seed);
                    int face = hungFaces[drawn(seed) % 4];
                    marks[face] &= marks[face] - 1;
                }
                x.hours(1);
                for (int one = 0; one < 6; one++) {
                    Check.due("ticket by draws", x.person(one, 2), ticket[one]);
                    Check.due("marks by draws", x.face(one, 0), marks[one]);
                }
            }
            Check.due("seed after draws", x.seed(0), seed);
        }
        // The first draws are made always, the others only if they are needed.
        HungFaces y = Check.crowd(2);
        Check.door(y, "mix 100;thief 100");
        y.hours(1);
        Check.due("two draws", y.seed(1), after(after(1)));
        y.hand(0, 0);
        y.hours(1);
        Check.due("three draws", y.seed(1), after(after(after(1))));
        y.hand(1, 1);
        y.hours(1);
        Check.due("five draws", y.seed(1), after(after(after(after(after(1))))));
        Check.due("changed by hours", y.person(0, 2), 1);
        logged(y, 0, 2, 1, 0, NONE, 3);
        logged(y, 1, 2, 0, 1, NONE, 3);
    }
}
