/** Promises 1 to 6: a new object, feed, end, door, law, fault. */
public final class TextsTest {
    private static final String ONE = "person 10000000 00000000";
    private static final String TWO = ONE + ";person 01000000 00000000";
    private static final String THREE = TWO + ";person 11000000 00000000";

    public static void main(String[] args) {
        newObject();
        feeding();
        ending();
        doorTells();
        doorWrong();
        hooksOfTickets();
        doorLimits();
        lawTells();
        lawWrong();
        lawMeans();
        faultOfLatest();
        Check.close();
    }

    private static void newObject() {
        HungFaces x = new HungFaces();
        int[] want = {0, 6, 0, 0, -1, 0, 0, 0, 0, 0, 0, 0};
        for (int what = 0; what < want.length; what++) {
            Check.due("new count " + what, x.count(what), want[what]);
        }
        Check.due("new fault", x.fault(), -1);
        Check.due("new seed", x.seed(1), 1);
        Check.due("new tape", x.end(1), false);
        Check.due("new back", x.back(), false);
        Check.due("new undo", x.undo(), false);
        Check.due("NONE", HungFaces.NONE, -1);
        for (int hook = 0; hook < 6; hook++) {
            Check.due("new hook", x.hook(hook), -1);
        }
    }

    private static void feeding() {
        HungFaces x = new HungFaces();
        for (int i = 1; i <= 20; i++) {
            Check.due("feed " + i, x.feed(0, 0, 0, 0, 0), 20 * i);
        }
        Check.due("feed 21", x.feed(1, 1, 1, 1, 1), -1);
        Check.due("feed came none", x.end(401), false);
        Check.due("end 381", x.end(381), true);
        Check.due("feed of 381", x.feed(1, 1, 1, 1, 1), -1);
        Check.due("end 380", x.end(380), true);
        Check.due("feed of 380", x.feed(1, 1, 1, 1, 1), 400);
        // "mix 7;thief 8;hooks " and then "9": of each number the highest byte first.
        HungFaces y = new HungFaces();
        y.feed(0x6d697820, 0x373b7468, 0x69656620, 0x383b686f, 0x6f6b7320);
        y.feed(0x39202020, 0x20202020, 0x20202020, 0x20202020, 0x20202020);
        Check.due("door of bytes", y.door(), 1);
        Check.due("mix of bytes", y.count(6), 7);
        Check.due("thief of bytes", y.count(7), 8);
        Check.due("hooks of bytes", y.count(1), 9);
        Check.due("door used it up", y.end(1), false);
        // A byte above 127 is a byte like others.
        HungFaces z = new HungFaces();
        z.feed(0x20ffffff, -1, -1, -1, -1);
        Check.throwsDue("door of 255", Check.ARGUMENT, z::door);
        Check.due("fault of 255", z.fault(), 1);
    }

    private static void ending() {
        HungFaces x = new HungFaces();
        Check.due("end -1", x.end(-1), false);
        Check.due("end 0 of none", x.end(0), true);
        x.feed(0, 0, 0, 0, 0);
        Check.due("end 21", x.end(21), false);
        Check.due("end 20", x.end(20), true);
        Check.due("end -5", x.end(-5), false);
        Check.due("end 3", x.end(3), true);
        Check.due("end 4", x.end(4), false);
        Check.due("feed behind 3", x.feed(0, 0, 0, 0, 0), 23);
        Check.due("end least", x.end(Integer.MIN_VALUE), false);
        Check.due("end most", x.end(Integer.MAX_VALUE), false);
    }

    private static void doorTells() {
        HungFaces x = new HungFaces();
        Check.due("empty door", x.door(), 1);
        Check.tape(x, "     ");
        Check.due("blank door", x.door(), 2);
        Check.tape(x, "  person10000001 11111111 ;person 01100000 00000000;wed1 0;knows 0 1 1;wish 1 1;mix 100;"
                + "thief 007 ");
        Check.due("door of all", x.door(), 3);
        Check.due("people", x.count(0), 2);
        Check.due("face marks", x.face(0, 0), 129);
        Check.due("mask marks", x.person(0, 0), 255);
        Check.due("face 1 marks", x.face(1, 0), 6);
        Check.due("spouse", x.person(0, 3), 1);
        Check.due("spouse", x.person(1, 3), 0);
        Check.due("knows", x.person(0, 4), 2);
        Check.due("knows not back", x.person(1, 4), 0);
        Check.due("wish", x.wish(1, 0), 1);
        Check.due("wish", x.wish(1, 1), 0);
        Check.due("mix", x.count(6), 100);
        Check.due("thief", x.count(7), 7);
        Check.due("texts", x.count(3), 3);
        Check.door(x, "person 00000000 00000000;person 00000000 00000000;wish 1 3 1;person 00000000 00000000;"
                + "mix 0;hooks 12");
        int[] wishes = {3, 1, 0, 2, 4, -1};
        for (int k = 0; k < wishes.length; k++) {
            Check.due("later wish " + k, x.wish(1, k), wishes[k]);
        }
        Check.due("mix none", x.count(6), 0);
        Check.due("hooks 12", x.count(1), 12);
        Check.due("text clears acts", x.count(11), 0);
        x.hand(0, 11);
        Check.door(x, "");
        Check.due("text forgets acts", x.undo(), false);
    }

    private static void doorWrong() {
        HungFaces x = new HungFaces();
        x.hours(1);
        Check.wrongDoor(x, ";", 0);
        Check.wrongDoor(x, "  ;mix 1", 2);
        Check.wrongDoor(x, "mix 1;", 6);
        Check.wrongDoor(x, "mix 1; ;", 7);
        Check.wrongDoor(x, "mix 1;   ", 9);
        Check.wrongDoor(x, "mix 1;;mix 2", 6);
        Check.wrongDoor(x, "mix", 3);
        Check.wrongDoor(x, "mix ", 4);
        Check.wrongDoor(x, "mix 1 2", 6);
        Check.wrongDoor(x, "mix 1 mix 2", 6);
        Check.wrongDoor(x, "mix 101", 4);
        Check.wrongDoor(x, "mix 0001", 4);
        Check.wrongDoor(x, "mix -1", 4);
        Check.wrongDoor(x, "mixx 1", 0);
        Check.wrongDoor(x, "Mix 1", 0);
        Check.wrongDoor(x, "hand", 0);
        Check.wrongDoor(x, "mix 1\t", 5);
        Check.wrongDoor(x, "thief 999", 6);
        Check.wrongDoor(x, "thief a", 6);
        Check.wrongDoor(x, "hooks 0", 6);
        Check.wrongDoor(x, "hooks 13", 6);
        Check.wrongDoor(x, "hooks", 5);
        Check.wrongDoor(x, "person", 6);
        Check.wrongDoor(x, "person 1000000 00000000", 7);
        Check.wrongDoor(x, "person 10000000", 15);
        Check.wrongDoor(x, "person 10000000   ", 18);
        Check.wrongDoor(x, "person 10000000;mix 1", 15);
        Check.wrongDoor(x, "person 1000000010000000", 7);
        Check.wrongDoor(x, "person 10000000 10000020", 16);
        Check.wrongDoor(x, "person 10000000 1000000a", 16);
        Check.wrongDoor(x, "person 10000000 10000000 1", 25);
        Check.wrongDoor(x, "person 10000000 wed", 16);
        Check.wrongDoor(x, "wish 0 0", 5);
        Check.wrongDoor(x, "knows 0 1;" + TWO, 6);
        int at = TWO.length() + 1;
        Check.wrongDoor(x, TWO + ";wish 0", at + 6);
        Check.wrongDoor(x, TWO + ";wish 0 2", at + 7);
        Check.wrongDoor(x, TWO + ";wish 0 1 1", at + 9);
        Check.wrongDoor(x, TWO + ";wish 0 1 0 1", at + 11);
        Check.wrongDoor(x, TWO + ";wish 0 1 x", at + 9);
        Check.wrongDoor(x, TWO + ";wish 2 1", at + 5);
        Check.wrongDoor(x, TWO + ";wed 0", at + 5);
        Check.wrongDoor(x, TWO + ";wed 0 0", at + 6);
        Check.wrongDoor(x, TWO + ";wed 0 1 1", at + 8);
        Check.wrongDoor(x, TWO + ";wed 0 1;wed 0 1", at + 8 + 4);
        Check.wrongDoor(x, THREE + ";wed 0 1;wed 2 1", THREE.length() + 1 + 8 + 6);
        Check.wrongDoor(x, TWO + ";knows 0 0", at + 8);
        Check.wrongDoor(x, TWO + ";knows 0", at + 7);
        Check.wrongDoor(x, TWO + ";knows 0 1 2", at + 10);
        Check.wrongDoor(x, TWO + ";knows 0 1 1000", at + 10);
        Check.wrongDoor(x, TWO + ";knows 0 1 000 1", at + 10);
        HungFaces y = Check.opened(TWO);
        y.hand(1, 3);
        Check.wrongDoor(y, "hooks 3", 6);
        Check.due("acts stay by a wrong text", y.count(11), 1);
        Check.tape(y, "hooks 4");
        Check.due("hooks above the last taken", y.door(), 2);
        Check.due("four hooks", y.count(1), 4);
    }

    private static void hooksOfTickets() {
        HungFaces x = Check.opened(THREE);
        x.hand(0, 5);
        x.hand(1, 0);
        x.steal(0, 5);
        Check.due("no face hangs there", x.hook(5), -1);
        Check.wrongDoor(x, "hooks 3", 6);
        Check.wrongDoor(x, "hooks 5", 6);
        Check.wrongDoor(x, "mix 7;hooks 12; hooks 5", 22);
        Check.tape(x, "hooks 12;hooks 6");
        Check.due("hooks above the last ticket", x.door(), 2);
        Check.due("six hooks", x.count(1), 6);
        x.mix(0, 1);
        Check.wrongDoor(x, "hooks 5", 6);
        x.image();
        Check.due("none hangs at the ticket", x.fetch(1), -1);
        Check.tape(x, "hooks 1");
        Check.due("hooks above a ticket given up", x.door(), 3);
        Check.due("one hook", x.count(1), 1);
        x.back();
        Check.wrongDoor(x, "hooks 1", 6);
        // A TICKET below the last FACE, and one above it.
        x.hand(2, 3);
        Check.wrongDoor(x, "hooks 4", 6);
        x.fetch(1);
        Check.wrongDoor(x, "hooks 3", 6);
        Check.door(x, "hooks 4");
        Check.due("hooks above the last face", x.count(1), 4);
    }

    private static void doorLimits() {
        StringBuilder text = new StringBuilder("mix 0");
        for (int i = 1; i < 14; i++) {
            text.append(";mix ").append(i);
        }
        HungFaces x = new HungFaces();
        Check.tape(x, text.toString());
        Check.due("14 lines", x.door(), 1);
        Check.due("the 14th line", x.count(6), 13);
        Check.wrongDoor(x, text + "; mix 1", text.length() + 2);
        Check.wrongDoor(x, text + ";", text.length() + 1);
        Check.wrongDoor(x, text + " mix 3", text.length() + 1);
        HungFaces y = Check.crowd(9);
        Check.wrongDoor(y, ONE + "; person 1 1", ONE.length() + 2);
        Check.door(y, ONE);
        Check.due("ten people", y.count(0), 10);
        Check.wrongDoor(y, " " + ONE, 1);
        for (int texts = 3; texts < 12; texts++) {
            Check.tape(y, "mix 1");
            Check.due("texts", y.door(), texts);
        }
        Check.due("11 texts", y.count(3), 11);
        Check.tape(y, "mix 2");
        Check.due("the 12th text", y.door(), 12);
        String before = Check.seen(y);
        Check.wrongDoor(y, "mix x", 4);
        Check.tape(y, "mix 3");
        Check.throwsDue("the 13th text", Check.UNSUPPORTED, y::door);
        Check.due("13th used up", y.end(1), false);
        Check.due("13th changes nothing", Check.seen(y).equals(before), true);
        Check.due("13th was read, and right", y.fault(), -1);
    }

    private static void lawTells() {
        HungFaces x = new HungFaces();
        Check.due("empty law", x.law(), 0);
        Check.due("lines of it", x.count(4), 0);
        Check.tape(x, "hand");
        Check.due("law", x.law(), 1);
        Check.tape(x, " hand if own ; fetch if not(wed)and who+hour+hook<marks+hung+free or 999>0;fetch");
        Check.due("law of three", x.law(), 3);
        Check.due("lines of it", x.count(4), 3);
        Check.due("used up", x.end(1), false);
        StringBuilder text = new StringBuilder("hand");
        for (int i = 1; i < 12; i++) {
            text.append(";fetch");
        }
        Check.tape(x, text.toString());
        Check.due("law of 12", x.law(), 12);
        Check.wrongLaw(x, text + "; fetch", text.length() + 2);
        Check.due("the law stays", x.count(4), 12);
        x.hours(1);
        Check.law(x, "fetch");
        Check.due("a law forgets acts", x.undo(), false);
        Check.tape(x, "hand if ((((((own))))))");
        Check.due("6 deep", x.law(), 1);
        Check.tape(x, "hand if not(not(not(own)))and not not not not not not own or ((own)and(own))");
        Check.due("6 deep again and again", x.law(), 1);
    }

    private static void lawWrong() {
        HungFaces x = Check.opened(TWO);
        Check.law(x, "hand if who<1");
        x.hours(1);
        Check.wrongLaw(x, "hands", 0);
        Check.wrongLaw(x, "handz", 0);
        Check.wrongLaw(x, "hand`", 4);
        Check.wrongLaw(x, "hand{", 4);
        Check.wrongLaw(x, "hand if 1<2/", 11);
        Check.wrongLaw(x, "hand if 1<2:", 11);
        Check.wrongLaw(x, "mix 1", 0);
        Check.wrongLaw(x, "hand;", 5);
        Check.wrongLaw(x, "hand own", 5);
        Check.wrongLaw(x, "hand if", 7);
        Check.wrongLaw(x, "hand if  ", 9);
        Check.wrongLaw(x, "handif own", 0);
        Check.wrongLaw(x, "hand if own own", 12);
        Check.wrongLaw(x, "hand if own and", 15);
        Check.wrongLaw(x, "hand if own or or", 15);
        Check.wrongLaw(x, "hand if own<1", 11);
        Check.wrongLaw(x, "hand if 1<own", 10);
        Check.wrongLaw(x, "hand if who", 11);
        Check.wrongLaw(x, "hand if who and own", 12);
        Check.wrongLaw(x, "hand if who<1<2", 13);
        Check.wrongLaw(x, "hand if who=1", 11);
        Check.wrongLaw(x, "hand if who+<1", 12);
        Check.wrongLaw(x, "hand if +1<2", 8);
        Check.wrongLaw(x, "hand if 1000<2", 8);
        Check.wrongLaw(x, "hand if 1<2000", 10);
        Check.wrongLaw(x, "hand if 1<2 3", 12);
        Check.wrongLaw(x, "hand if (own", 12);
        Check.wrongLaw(x, "hand if (own;fetch", 12);
        Check.wrongLaw(x, "hand if own)", 11);
        Check.wrongLaw(x, "hand if (1+2)<3", 12);
        Check.wrongLaw(x, "hand if ()", 9);
        Check.wrongLaw(x, "hand if not", 11);
        Check.wrongLaw(x, "hand if not and own", 12);
        Check.wrongLaw(x, "hand if nott own", 8);
        Check.wrongLaw(x, "hand if (((((((own)))))))", 14);
        Check.wrongLaw(x, "hand if not (not (not (not own", 23);
        Check.wrongLaw(x, "hand if not not not(((not own)))", 22);
        Check.wrongLaw(x, "fetch if own; hand if", 21);
        Check.wrongLaw(x, "fetch if person", 9);
    }

    private static int handedBy(String condition) {
        HungFaces x = Check.opened(THREE + ";wed 0 2");
        x.hours(2);
        Check.law(x, "hand if " + condition);
        x.hours(1);
        return x.count(8);
    }

    private static void lawMeans() {
        Check.due("who", handedBy("who<1"), 1);
        Check.due("who", handedBy("who>0"), 6);
        Check.due("wed", handedBy("wed"), 5);
        Check.due("not wed", handedBy("not wed"), 2);
        Check.due("own", handedBy("own"), 7);
        Check.due("marks", handedBy("marks>1"), 4);
        Check.due("hour", handedBy("hour<2"), 0);
        Check.due("hour", handedBy("hour<3 and 1<hour"), 7);
        Check.due("hook without a ticket", handedBy("98<hook and hook<100"), 7);
        Check.due("hung as it is by then", handedBy("hung<2"), 3);
        Check.due("free as it is by then", handedBy("free>5"), 1);
        Check.due("sum", handedBy("who+who+1>3+1"), 4);
        Check.due("and binds first", handedBy("who<1 or who>1 and not wed"), 1);
        Check.due("brackets bind first", handedBy("(who<1 or who>1)and not wed"), 0);
        Check.due("not binds to one", handedBy("not who<1 or wed"), 7);
        Check.due("chain of or", handedBy("who<0 or who>1 or who<1 or 1<0"), 5);
        Check.due("chain of and", handedBy("who<9 and who<2 and who>0"), 2);
        Check.due("no figures of a bit", handedBy("2>1 and 1<2"), 7);
        HungFaces x = Check.opened(THREE);
        Check.law(x, "hand if 1<0;hand if who>1");
        Check.due("either line", x.hours(1), 1);
        Check.due("either line", x.count(8), 4);
        Check.law(x, "");
        Check.due("no line", x.hours(5), 0);
        Check.law(x, "fetch if hook<1 and marks>1 and own");
        Check.due("of the face at the ticket", x.hours(1), 1);
        HungFaces y = Check.opened(THREE);
        Check.law(y, "hand");
        Check.law(y, "fetch");
        Check.due("in place of the one before", y.hours(1), 0);
        Check.wrongLaw(y, "hand;hand x", 10);
        Check.due("a wrong one is none", y.hours(1), 0);
        Check.law(y, "fetch");
        Check.due("nothing stays of a wrong one", y.hours(1), 0);
        String inner = "1<0 or 0<1 and 0+1<1+1";
        for (int deep = 0; deep < 6; deep++) {
            inner = "1<0 or 0<1 and (" + inner + ")";
        }
        Check.due("all that can wait", handedBy(inner), 7);
    }

    private static void faultOfLatest() {
        HungFaces x = new HungFaces();
        Check.tape(x, "mix x");
        Check.throwsDue("wrong door", Check.ARGUMENT, x::door);
        Check.due("fault", x.fault(), 4);
        Check.tape(x, 1, 2);
        Check.throwsDue("fits is no text", Check.ARGUMENT, () -> x.fits(-1));
        x.image();
        x.back();
        Check.due("fault stays", x.fault(), 4);
        Check.tape(x, "fetch");
        x.law();
        Check.due("fault of a right text", x.fault(), -1);
    }
}
