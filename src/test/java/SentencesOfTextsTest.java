/** A test for each sentence that names an edge: PEOPLE, THE DOOR, THE LAW (Terms, part 1), promises 1 to 6. */
public final class SentencesOfTextsTest {
    private static final int NONE = HungFaces.NONE;
    private static final String ONE = "person 10000000 00000000";
    private static final String TWO = ONE + ";person 01000000 00000000";
    private static final String THREE = TWO + ";person 11000000 00000000";
    private static final int MOST = Integer.MAX_VALUE;
    private static final int LEAST = Integer.MIN_VALUE;

    public static void main(String[] args) {
        people();
        atFirst();
        doorTexts();
        doorLines();
        figures();
        peopleByThen();
        wishes();
        weddings();
        knowing();
        hooksAndNumbers();
        lawLines();
        lawGrammar();
        lawMeans();
        wordsAndBlanks();
        depths();
        wrongBytes();
        nothingStays();
        newObject();
        feed();
        end();
        door();
        law();
        fault();
        Check.promisesSeen(1, 6);
        Check.close();
    }

    private static String lines(String line, int howMany) {
        return (line + ";").repeat(howMany - 1) + line;
    }

    private static void people() {
        Check.sentence("Terms", "PEOPLE (at most 10, numbered from 0 on)");
        HungFaces x = Check.crowd(9);
        Check.refused(x, "the 10th is not there yet", Check.INDEX, () -> x.person(9, 0));
        Check.rightDoor(x, ONE);
        Check.due("ten", x.count(0), 10);
        Check.due("the first is 0", x.person(0, 1), 0);
        Check.due("the last is 9", x.person(9, 1), 9);
        Check.due("what the last one's FACE is", x.face(9, 0), 1);
        Check.refused(x, "no 11th", Check.INDEX, () -> x.person(10, 0));
        Check.wrongDoor(x, ONE, 0);
        Check.wrongDoor(x, "mix 3; " + ONE, 7);
        Check.wrongDoor(new HungFaces(), lines(ONE, 11), 10 * (ONE.length() + 1));
        Check.rightDoor(new HungFaces(), lines(ONE, 10));
        Check.sentence("Terms", "a FACE (of the number of its PERSON) and a MASK, each of MARKS 0 to 7, as bits");
        HungFaces y = Check.opened("person 10000000 00000001;person 00000001 10000000;person 11111111 00000000;"
                + "person 00000000 11111111;person 01000000 00000010");
        int[] faces = {1, 128, 255, 0, 2};
        int[] masks = {128, 1, 0, 255, 64};
        for (int one = 0; one < 5; one++) {
            Check.due("FACE " + one, y.face(one, 0), faces[one]);
            Check.due("MASK " + one, y.person(one, 0), masks[one]);
        }
    }

    private static void atFirst() {
        Check.sentence("Terms", "what one WEARS: a FACE (at first one's own), or none");
        HungFaces x = Check.opened("hooks 12;" + TWO);
        Check.due("one's own", x.person(1, 1), 1);
        x.change(0, 1);
        Check.rightDoor(x, ONE);
        Check.due("who comes later WEARS one's own", x.person(2, 1), 2);
        Check.due("others go on", x.person(0, 1), 1);
        x.hand(2, 11);
        Check.due("none", x.person(2, 1), NONE);
        Check.sentence("Terms", "a TICKET: the number of a HOOK, or none (at first)");
        Check.due("none at first", x.person(0, 2), NONE);
        Check.due("of the last HOOK", x.person(2, 2), 11);
        x.hand(0, 0);
        Check.due("of the first HOOK", x.person(0, 2), 0);
        Check.sentence("Terms", "a SPOUSE, or none");
        Check.due("none", x.person(0, 3), NONE);
        Check.rightDoor(x, "wed 2 0");
        Check.due("the one is the other's", x.person(0, 3), 2);
        Check.due("the other is the one's", x.person(2, 3), 0);
        Check.due("none still", x.person(1, 3), NONE);
        Check.sentence("Terms", "whom one KNOWS, as bits (nobody at first)");
        Check.due("nobody", x.person(1, 4), 0);
        Check.due("a SPOUSE is not known by that", x.person(0, 4), 0);
        Check.rightDoor(x, "knows 1 0 2");
        Check.due("two", x.person(1, 4), 5);
        Check.sentence("Terms", "what one THINKS that another one KNOWS, as bits (nobody at first)");
        Check.due("nobody, though that one KNOWS some", x.thinks(0, 1), 0);
        Check.due("nobody, though one KNOWS that one", x.thinks(1, 0), 0);
        Check.sentence("Terms", "WISHES: all FACES, the dearest first (at first by numbers)");
        HungFaces ten = Check.crowd(10);
        for (int k = 0; k < 10; k++) {
            Check.due("of the first", ten.wish(0, k), k);
            Check.due("of the last", ten.wish(9, k), k);
        }
        HungFaces third = Check.opened(TWO + ";wish 0 1;wish 1 1;" + ONE);
        for (int k = 0; k < 3; k++) {
            Check.due("by numbers, whatever the others wish", third.wish(2, k), k);
        }
        Check.due("no more than all", ten.wish(9, 10), NONE);
        Check.sentence("Terms", "HOOKS (1 to 12, numbered from 0 on; 6 at first) in a row: a FACE each, or none.");
        HungFaces y = new HungFaces();
        Check.due("six", y.count(1), 6);
        Check.due("the first", y.hook(0), NONE);
        Check.due("the last", y.hook(5), NONE);
        Check.refused(y, "no 7th", Check.INDEX, () -> y.hook(6));
        Check.rightDoor(y, "hooks 1");
        Check.due("one", y.hook(0), NONE);
        Check.refused(y, "no second", Check.INDEX, () -> y.hook(1));
        Check.rightDoor(y, "hooks 12");
        Check.due("the 12th", y.hook(11), NONE);
        Check.refused(y, "no 13th", Check.INDEX, () -> y.hook(12));
        Check.sentence("Terms", "HOUR: 0 at first. MIX, THIEF: 0 to 100 (0 at first).");
        for (int what = 5; what <= 7; what++) {
            Check.due("0 at first", y.count(what), 0);
        }
        Check.rightDoor(y, "mix 100;thief 99");
        Check.due("MIX 100", y.count(6), 100);
        Check.due("THIEF 99", y.count(7), 99);
        Check.rightDoor(y, "mix 0;thief 100");
        Check.due("MIX 0", y.count(6), 0);
        Check.due("THIEF 100", y.count(7), 100);
        Check.wrongDoor(y, "mix 101", 4);
        Check.wrongDoor(y, "thief 101", 6);
    }

    private static void doorTexts() {
        Check.sentence("Terms", "THE DOOR is told in texts (at most 12, one behind another)");
        HungFaces x = new HungFaces();
        Check.rightDoor(x, ONE);
        Check.rightDoor(x, ONE);
        Check.due("the one behind the other", x.count(0), 2);
        for (int texts = 3; texts <= 12; texts++) {
            Check.rightDoor(x, texts % 2 == 0 ? "" : "mix " + texts);
        }
        Check.due("twelve", x.count(3), 12);
        Check.tape(x, "mix 1");
        Check.refused(x, "the 13th", Check.UNSUPPORTED, x::door);
        Check.refused(x, "an empty 13th", Check.UNSUPPORTED, x::door);
        Check.due("MIX of the 11th", x.count(6), 11);
        HungFaces y = new HungFaces();
        for (int i = 0; i < 15; i++) {
            Check.wrongDoor(y, "mix", 3);
            Check.rightLaw(y, "hand", 1);
        }
        Check.rightDoor(y, "mix 2");
        Check.due("wrong texts and laws do not count", y.count(3), 1);
    }

    private static void doorLines() {
        Check.sentence("Terms", "LINE { ; LINE }, at most 14");
        String most = lines("mix 1", 13) + ";mix 14";
        HungFaces x = new HungFaces();
        Check.rightDoor(x, "mix 9");
        Check.rightDoor(x, most);
        Check.due("the 14th LINE is read", x.count(6), 14);
        Check.wrongDoor(x, most + ";mix 15", most.length() + 1);
        Check.wrongDoor(x, most + "  ;  mix 15", most.length() + 5);
        Check.wrongDoor(x, most + ";", most.length() + 1);
        Check.wrongDoor(x, most + ";;", most.length() + 1);
        Check.wrongDoor(x, "mix 1;;mix 2", 6);
        Check.wrongDoor(x, ";", 0);
        Check.wrongDoor(x, "mix 1 mix 2", 6);
        Check.sentence("Terms",
                "person F F | wish P P { P } | wed P P | knows P P { P } | hooks N | mix N | thief N.");
        HungFaces y = Check.opened(THREE);
        String[] tooFew = {"person", "person 10000000", "wish", "wish 0", "wed", "wed 0", "knows", "knows 0", "hooks",
            "mix", "thief"};
        for (String line : tooFew) {
            Check.wrongDoor(y, line, line.length());
            Check.wrongDoor(y, line + ";mix 1", line.length());
        }
        String[] just = {"person 10000000 00000000", "wed 0 1", "hooks 7", "mix 1", "thief 1"};
        for (String line : just) {
            Check.wrongDoor(y, line + " 2", line.length() + 1);
            Check.wrongDoor(y, line + " 10000000", line.length() + 1);
        }
        for (String line : just) {
            Check.rightDoor(y, line);
        }
        Check.rightDoor(y, "wish 0 1;wish 1 3 2 1 0;knows 0 1;knows 1 0 2 3");
        Check.due("a WISH of one", y.wish(0, 0), 1);
        Check.due("a WISH of all", y.wish(1, 3), 0);
        Check.due("KNOWS one", y.person(0, 4), 2);
        Check.due("KNOWS all", y.person(1, 4), 13);
    }

    private static void figures() {
        Check.sentence("Terms", "F: just 8 figures, each 0 or 1: whether it has MARK 0, 1, .. 7"
                + " (of person: its FACE, then its MASK).");
        HungFaces x = Check.opened("person 01111110 10000001");
        Check.due("its FACE", x.face(0, 0), 126);
        Check.due("then its MASK", x.person(0, 0), 129);
        String[] wrong = {"0", "1000000", "100000000", "1000000010000000", "20000000", "00000002", "00000009",
            "1000 0000", "x0000000", "1000000x"};
        for (String figures : wrong) {
            Check.wrongDoor(x, "person " + figures + " 00000000", 7);
            Check.wrongDoor(x, "person 00000000 " + figures, 16);
        }
        Check.rightDoor(x, "person00000001 00000000");
    }

    private static void peopleByThen() {
        Check.sentence("Terms", "P: a PERSON that there is by then");
        HungFaces x = new HungFaces();
        Check.wrongDoor(x, "wish 0 0", 5);
        Check.wrongDoor(x, "wed 0 0", 4);
        Check.wrongDoor(x, "knows 0 0", 6);
        Check.wrongDoor(x, "knows 0 1;" + TWO, 6);
        Check.wrongDoor(x, ONE + ";knows 0 1;" + ONE, ONE.length() + 9);
        Check.wrongDoor(x, ONE + ";wed 0 1;" + ONE, ONE.length() + 7);
        Check.wrongDoor(x, ONE + ";wish 0 1;" + ONE, ONE.length() + 8);
        Check.rightDoor(x, TWO + ";knows 0 1;wed 0 1;wish 0 1");
        Check.rightDoor(x, "knows 01 000;wish 001 1");
        Check.due("told in a text before", x.person(1, 4), 1);
        Check.wrongDoor(x, "knows 2 1", 6);
        Check.wrongDoor(x, "knows 1 2", 8);
        Check.wrongDoor(x, "wish 0 0 2", 9);
        HungFaces ten = Check.crowd(10);
        Check.rightDoor(ten, "knows 9 0;wed 0 9;wish 9 9");
        Check.wrongDoor(ten, "knows 10 0", 6);
    }

    private static void wishes() {
        Check.sentence("Terms", "of wish: whose, then FACES, none of them twice");
        HungFaces x = Check.crowd(10);
        Check.rightDoor(x, "wish 3 9 8 7 6 5 4 3 2 1 0");
        for (int k = 0; k < 10; k++) {
            Check.due("all ten", x.wish(3, k), 9 - k);
        }
        Check.wrongDoor(x, "wish 3 9 8 7 6 5 4 3 2 1 0 0", 27);
        Check.wrongDoor(x, "wish 3 9 8 7 6 5 4 3 2 1 0 10", 27);
        Check.wrongDoor(x, "wish 3 3 3", 9);
        Check.wrongDoor(x, "wish 3 1 2 001", 11);
        Check.rightDoor(x, "wish 3 3");
        Check.due("one's own FACE, too", x.wish(3, 0), 3);
        Check.sentence("Terms", "(these come first, all others behind them by numbers, also those who come later)");
        HungFaces y = Check.crowd(4);
        Check.rightDoor(y, "wish 1 3;" + ONE);
        int[] first = {3, 0, 1, 2, 4, NONE};
        for (int k = 0; k < first.length; k++) {
            Check.due("WISH " + k, y.wish(1, k), first[k]);
        }
        Check.rightDoor(y, "wish 1 4 2;wish 4 4 3 2 1 0;" + ONE);
        int[] later = {4, 2, 0, 1, 3, 5};
        int[] ofNew = {4, 3, 2, 1, 0, 5};
        for (int k = 0; k < later.length; k++) {
            Check.due("in place of the ones before " + k, y.wish(1, k), later[k]);
            Check.due("behind all told ones " + k, y.wish(4, k), ofNew[k]);
            Check.due("of who came last " + k, y.wish(5, k), k);
        }
    }

    private static void weddings() {
        Check.sentence("Terms", "of wed: two that are not one, without a SPOUSE");
        HungFaces x = Check.opened(lines(ONE, 5));
        Check.wrongDoor(x, "wed 0 0", 6);
        Check.wrongDoor(x, "wed 4 04", 6);
        Check.rightDoor(x, "wed 0 4");
        Check.wrongDoor(x, "wed 0 1", 4);
        Check.wrongDoor(x, "wed 4 1", 4);
        Check.wrongDoor(x, "wed 1 0", 6);
        Check.wrongDoor(x, "wed 1 4", 6);
        Check.wrongDoor(x, "wed 0 4", 4);
        Check.wrongDoor(x, "wed 1 2;wed 3 2", 14);
        Check.wrongDoor(x, "wed 1 2;wed 2 3", 12);
        Check.rightDoor(x, "wed 3 1");
        Check.due("none for the fifth", x.person(2, 3), NONE);
    }

    private static void knowing() {
        Check.sentence("Terms", "of knows: who, then whom (not oneself).");
        HungFaces x = Check.opened(THREE);
        Check.wrongDoor(x, "knows 0 0", 8);
        Check.wrongDoor(x, "knows 1 0 2 1", 12);
        Check.rightDoor(x, "knows 0 1");
        Check.due("whom", x.person(0, 4), 2);
        Check.due("not back", x.person(1, 4), 0);
        Check.rightDoor(x, "knows 0 2 2 2");
        Check.due("whom one KNEW stays", x.person(0, 4), 6);
    }

    private static void hooksAndNumbers() {
        Check.sentence("Terms", "hooks: 1 to 12, above the number of the last HOOK that is taken.");
        HungFaces x = Check.opened(THREE);
        Check.wrongDoor(x, "hooks 0", 6);
        Check.wrongDoor(x, "hooks 13", 6);
        Check.rightDoor(x, "hooks 1");
        Check.rightDoor(x, "hooks 12");
        x.hand(1, 0);
        x.hand(0, 8);
        Check.wrongDoor(x, "hooks 1", 6);
        Check.wrongDoor(x, "hooks 8", 6);
        Check.rightDoor(x, "hooks 9");
        Check.due("nine", x.count(1), 9);
        Check.due("its FACE stays", x.hook(8), 0);
        Check.refused(x, "no 10th", Check.INDEX, () -> x.hand(2, 9));
        Check.wrongDoor(x, "hooks 12;hooks 8", 15);
        x.steal(1, 8);
        Check.wrongDoor(x, "hooks 8", 6);
        x.fetch(0);
        Check.rightDoor(x, "hooks 1");
        x.steal(0, 0);
        Check.rightDoor(x, "hooks 1");
        Check.due("a HOOK stays for the TICKET that is out", x.person(1, 2), 0);
        Check.sentence("Terms", "Numbers are of 1 to 3 digits.");
        HungFaces y = Check.opened("mix 7");
        Check.due("one digit", y.count(6), 7);
        Check.rightDoor(y, "mix 42;thief 007;hooks 009");
        Check.due("two digits", y.count(6), 42);
        Check.due("three digits", y.count(7), 7);
        Check.due("three digits of HOOKS", y.count(1), 9);
        Check.wrongDoor(y, "mix 0001", 4);
        Check.wrongDoor(y, "thief 0000", 6);
        Check.wrongDoor(y, "hooks 0012", 6);
        Check.wrongDoor(y, "mix 4294967297", 4);
        Check.wrongDoor(y, "mix 99999999999999999999", 4);
        Check.rightDoor(y, TWO + ";knows 000 001");
        Check.wrongDoor(y, "knows 0000 1", 6);
        Check.wrongDoor(y, "knows 0 0001", 8);
        Check.wrongDoor(y, "wish 0 0001", 7);
        Check.wrongDoor(y, "wed 0 0001", 6);
    }

    private static void lawLines() {
        Check.sentence("Terms", "THE LAW (a text, in place of the one before): LINE { ; LINE }, at most 12");
        HungFaces x = Check.opened(THREE);
        Check.rightLaw(x, lines("hand if 1<0", 11) + ";hand", 12);
        Check.due("the 12th holds", x.hours(1), 3);
        String most = lines("hand", 12);
        Check.wrongLaw(x, most + ";fetch", most.length() + 1);
        Check.wrongLaw(x, most + " ; fetch if", most.length() + 3);
        Check.wrongLaw(x, most + ";", most.length() + 1);
        Check.rightLaw(x, "fetch", 1);
        Check.due("in place of the one before", x.hours(2), 3);
        Check.sentence("Terms", "hand [ if C ] | fetch [ if C ].");
        Check.wrongLaw(x, "hand own", 5);
        Check.wrongLaw(x, "hand if", 7);
        Check.wrongLaw(x, "fetch if;hand", 8);
        Check.wrongLaw(x, "if own", 0);
        Check.wrongLaw(x, "hand if own if own", 12);
        Check.wrongLaw(x, "hand fetch", 5);
        Check.wrongLaw(x, "own", 0);
        Check.rightLaw(x, "fetch;hand if own", 2);
        Check.sentence("Terms", "(Without a text no LINE holds.)");
        HungFaces y = Check.opened(THREE);
        Check.due("without one", y.hours(50), 0);
        Check.rightLaw(y, "hand", 1);
        y.hours(1);
        HungFaces z = Check.opened(THREE);
        z.hand(0, 0);
        Check.due("nor to fetch", z.hours(50), 0);
    }

    /** Which of three are HANDED in by a condition, as bits; 0 and 2 are wed, 1, 1 and 2 MARKS, after 2 HOURS. */
    private static int handedBy(String condition) {
        HungFaces x = Check.opened(THREE + ";wed 0 2");
        x.hours(2);
        Check.law(x, "hand if " + condition);
        x.hours(1);
        return x.count(8);
    }

    private static void lawGrammar() {
        Check.sentence("Terms", "C: ALL { or ALL }; ALL: ATOM { and ATOM };"
                + " ATOM: not ATOM | ( C ) | own | wed | SUM < SUM | SUM > SUM.");
        Check.due("and binds more than or", handedBy("wed or own and who>0"), 7);
        Check.due("and binds more than or", handedBy("own and who>1 or who<1"), 5);
        Check.due("in ( )", handedBy("(wed or own)and who>0"), 6);
        Check.due("not of one ATOM", handedBy("not own or wed"), 5);
        Check.due("not of ( )", handedBy("not(own or wed)"), 0);
        Check.due("not not", handedBy("not not wed"), 5);
        Check.due("less", handedBy("who<1"), 1);
        Check.due("less is not alike", handedBy("who<0"), 0);
        Check.due("more", handedBy("who>1"), 4);
        Check.due("more is not alike", handedBy("who>2"), 0);
        HungFaces x = Check.opened(THREE);
        String[] wrong = {"own or", "own and", "not", "(", "(own", "who", "who<", "who>", "1+", "1<1+", "own or not"};
        for (String condition : wrong) {
            Check.wrongLaw(x, "hand if " + condition, 8 + condition.length());
        }
        Check.wrongLaw(x, "hand if or own", 8);
        Check.wrongLaw(x, "hand if own and or wed", 16);
        Check.wrongLaw(x, "hand if own not wed", 12);
        Check.wrongLaw(x, "hand if ()", 9);
        Check.wrongLaw(x, "hand if own)", 11);
        Check.wrongLaw(x, "hand if (own))", 13);
        Check.wrongLaw(x, "hand if (own;fetch)", 12);
        Check.wrongLaw(x, "hand if (who)<1", 12);
        Check.wrongLaw(x, "hand if not who", 15);
        Check.wrongLaw(x, "hand if 1<2<3", 11);
        Check.wrongLaw(x, "hand if 1=1", 9);
        Check.wrongLaw(x, "hand if 1<>1", 10);
        Check.wrongLaw(x, "hand if own<1", 11);
        Check.wrongLaw(x, "hand if 1<wed", 10);
        Check.sentence("Terms", "SUM: PART { + PART }; PART: NUMBER | who | hour | hook | marks | hung | free.");
        Check.due("one PART", handedBy("1>who"), 1);
        Check.due("many PARTS", handedBy("who+who+hour+0+1>6+0"), 4);
        Check.due("on both sides", handedBy("who+1+1<1+hour+1+who+0"), 7);
        Check.due("of all", handedBy("who+hour+hook+marks+hung+free>110"), 4);
        StringBuilder sum = new StringBuilder("1");
        for (int i = 0; i < 190; i++) {
            sum.append("+1");
        }
        Check.due("as long as a TAPE goes", handedBy("190<" + sum), 7);
        Check.due("as long as a TAPE goes", handedBy(sum + "<192"), 7);
        Check.due("as long as a TAPE goes", handedBy(sum + "<191"), 0);
        Check.wrongLaw(x, "hand if +1<2", 8);
        Check.wrongLaw(x, "hand if 1++1<2", 10);
        Check.wrongLaw(x, "hand if 1 1<2", 10);
        Check.wrongLaw(x, "hand if 1-1<2", 9);
        Check.wrongLaw(x, "hand if own+1<2", 11);
        Check.wrongLaw(x, "hand if 1+own<2", 10);
        Check.wrongLaw(x, "hand if 1+wed<2", 10);
        Check.wrongLaw(x, "hand if 1+if<2", 10);
        Check.sentence("Terms", "All numbers are of 1 to 3 digits.");
        Check.due("three digits", handedBy("999>998 and 000<001"), 7);
        Check.wrongLaw(x, "hand if 1000>1", 8);
        Check.wrongLaw(x, "hand if 0000<1", 8);
        Check.wrongLaw(x, "hand if 1<0009", 10);
        Check.wrongLaw(x, "hand if 1+1000>1", 10);
        HungFaces old = Check.opened(ONE);
        Check.law(old, "hand if hour>999");
        for (int i = 0; i < 20; i++) {
            Check.due("HOUR goes beyond three digits", old.hours(50), 0);
        }
        Check.due("HOUR 1000", old.hours(1), 1);
        Check.due("THE LOG's HOUR, too", old.log(0, 0), 1000);
    }

    private static void lawMeans() {
        Check.sentence("Terms", "hook: that of the TICKET (99 without one)");
        Check.due("99", handedBy("hook>98 and hook<100"), 7);
        HungFaces x = Check.opened(THREE + ";hooks 12");
        x.hand(0, 0);
        x.hand(1, 11);
        Check.law(x, "fetch if hook<1");
        x.hours(1);
        Check.due("HOOK 0", x.count(8), 2);
        Check.law(x, "fetch if hook<11");
        Check.due("below HOOK 11", x.hours(1), 0);
        Check.law(x, "fetch if hook>10 and hook<12");
        Check.due("HOOK 11", x.hours(1), 1);
        Check.sentence("Terms", "marks: how many the FACE has that one WEARS, or, without one,"
                + " that hangs at one's TICKET (0, if none does)");
        HungFaces y = Check.opened("person 11111111 00000000;person 00000000 11111111;person 11100000 00000000");
        y.change(0, 1);
        Check.law(y, "hand if marks>7");
        y.hours(1);
        Check.due("of the FACE that one WEARS, all 8", y.count(8), 2);
        Check.law(y, "hand if marks<1");
        y.hours(1);
        Check.due("of a FACE without MARKS", y.count(8), 3);
        y.mix(0, 1);
        Check.law(y, "fetch if marks>7");
        y.hours(1);
        Check.due("of what hangs at one's TICKET", y.count(8), 2);
        HungFaces z = Check.opened(THREE);
        z.hand(0, 2);
        z.hand(1, 3);
        z.steal(0, 3);
        Check.law(z, "fetch if marks>0");
        Check.due("none hangs there", z.hours(1), 0);
        Check.law(z, "fetch if marks+1>0 and marks+1<2");
        Check.due("0, if none does", z.hours(1), 1);
        Check.due("it was the other one", z.count(8), 1);
        Check.sentence("Terms", "hung, free: HOOKS with a FACE, without one");
        Check.due("none hangs, then one, then two", handedBy("hung<2"), 3);
        Check.due("6 are free, then 5, then 4", handedBy("free>4"), 3);
        HungFaces full = Check.opened(THREE + ";hooks 2");
        full.hand(0, 0);
        full.hand(1, 1);
        Check.law(full, "fetch if hung>1 and free<1");
        Check.due("all are taken, and then one is free", full.hours(1), 1);
        HungFaces out = Check.opened(THREE + ";hooks 2");
        out.hand(0, 0);
        out.hand(1, 1);
        out.steal(1, 0);
        Check.law(out, "hand if free>0 and hung<2");
        Check.due("a HOOK whose TICKET is out, without a FACE, is free", out.hours(1), 1);
        Check.due("so it hangs there", out.hook(0), 2);
        Check.sentence("Terms", "own: that FACE is one's own");
        HungFaces own = Check.opened(THREE);
        own.change(0, 1);
        Check.law(own, "hand if own");
        own.hours(1);
        Check.due("the FACE that one WEARS", own.count(8), 4);
        Check.law(own, "hand if not own");
        own.hours(1);
        Check.due("another one's", own.count(8), 7);
        Check.law(own, "fetch if own");
        own.hours(1);
        Check.due("the FACE at one's TICKET", own.count(8), 3);
        own.mix(0, 1);
        own.hours(1);
        Check.due("now one's own", own.count(8), 0);
        HungFaces gone = Check.opened(THREE);
        gone.hand(0, 2);
        gone.hand(1, 3);
        gone.steal(1, 2);
        Check.law(gone, "fetch if own");
        Check.due("no FACE is not one's own", gone.hours(1), 0);
        Check.sentence("Terms", "wed: one has a SPOUSE.");
        Check.due("two of three", handedBy("wed"), 5);
        Check.due("the third", handedBy("not wed"), 2);
    }

    private static void wordsAndBlanks() {
        Check.sentence("Terms", "Words are as long as a to z go on");
        HungFaces x = Check.opened(TWO);
        Check.wrongLaw(x, "handif own", 0);
        Check.wrongLaw(x, "handz", 0);
        Check.wrongLaw(x, "handa", 0);
        Check.wrongLaw(x, "hand ifown", 5);
        Check.wrongLaw(x, "hand if notown", 8);
        Check.wrongLaw(x, "hand if ownand wed", 8);
        Check.wrongLaw(x, "hand if own andwed", 12);
        Check.wrongDoor(x, "mixthief 1", 0);
        Check.wrongDoor(x, "Mix 1", 0);
        Check.wrongDoor(x, "miX 1", 0);
        Check.wrongDoor(x, "mixX 1", 3);
        Check.wrongDoor(x, "mix`1", 3);
        Check.wrongDoor(x, "mix{1", 3);
        Check.wrongDoor(x, "mi x 1", 0);
        Check.rightLaw(x, "hand if(own)and not(wed)or 1<who;fetch if not(1>who)", 2);
        Check.rightDoor(x, "mix1;thief2;knows0 1");
        Check.sentence("Terms", "between all there may be blanks (32), also ahead and behind.");
        Check.rightDoor(x, "   mix   4   ;   thief   5   ");
        Check.due("MIX", x.count(6), 4);
        Check.due("THIEF", x.count(7), 5);
        Check.rightLaw(x, "  hand  if  (  who  +  1  <  2  )  and  not  wed  ;  fetch  ", 2);
        Check.wrongLaw(x, "ha nd", 0);
        Check.wrongDoor(x, "mix 1 0", 6);
        int[] others = {0, 9, 10, 13, 31, 33, 127, 128, 160, 255};
        for (int sign : others) {
            Check.wrongDoor(x, "mix" + (char) sign + "1", 3);
            Check.wrongDoor(x, (char) sign + "mix 1", 0);
            Check.wrongDoor(x, "mix 1" + (char) sign, 5);
            Check.wrongLaw(x, "hand " + (char) sign, 5);
        }
        Check.rightDoor(x, "mix 6" + " ".repeat(395));
        Check.due("as many as a TAPE has", x.count(6), 6);
        Check.rightDoor(x, " ".repeat(395) + "mix 8");
        Check.due("as many as a TAPE has", x.count(6), 8);
        Check.sentence("Terms", "A text that is empty, or blanks alone, has no LINE.");
        HungFaces y = Check.opened(TWO);
        Check.law(y, "hand");
        String before = Check.seen(y).substring(20);
        Check.rightDoor(y, "");
        Check.rightDoor(y, " ");
        Check.rightDoor(y, " ".repeat(400));
        Check.due("nothing is told by it", Check.seen(y).substring(20).equals(before), true);
        Check.due("but it is a text", y.count(3), 4);
        Check.rightLaw(y, "", 0);
        Check.due("no LINE holds", y.hours(5), 0);
        Check.rightLaw(y, "hand", 1);
        Check.rightLaw(y, " ".repeat(400), 0);
        Check.due("no LINE holds", y.hours(5), 0);
    }

    private static void depths() {
        Check.sentence("Terms", "( and not within one another at most 6 deep.");
        Check.due("6 (", handedBy("((((((wed))))))"), 5);
        Check.due("6 not", handedBy("not not not not not not wed"), 5);
        Check.due("6 of both", handedBy("not(not(not(wed)))"), 2);
        Check.due("6 of both", handedBy("(not(not(not wed)))"), 2);
        Check.due("6 deep beside 6 deep", handedBy("((((((own))))))and((((((wed))))))or not not not not not not 1<0"),
                5);
        Check.due("2 deep, many times", handedBy("(not wed and(own)and not own or(not own or(wed)))"), 5);
        HungFaces x = Check.opened(TWO);
        Check.wrongLaw(x, "hand if (((((((wed)))))))", 14);
        Check.wrongLaw(x, "hand if not not not not not not not wed", 32);
        Check.wrongLaw(x, "hand if not(not(not(not wed)))", 20);
        Check.wrongLaw(x, "hand if (not(not(not(wed))))", 20);
        Check.wrongLaw(x, "hand if own;hand if ((((((own or (wed)))))))", 33);
        Check.wrongLaw(x, "hand if ((((((own)))))) and (((((((", 34);
        StringBuilder deep = new StringBuilder("hand if ");
        while (deep.length() < 400) {
            deep.append('(');
        }
        Check.wrongLaw(x, deep.toString(), 14);
        String all = "0<1";
        for (int i = 0; i < 6; i++) {
            all = "1<0 or 0<1 and (1+1<1 or " + all + ")";
        }
        Check.due("all that waits 6 deep", handedBy(all), 7);
    }

    private static void wrongBytes() {
        HungFaces x = Check.opened(TWO);
        Check.sentence("Terms", "a number of more digits, or out of its bounds, or that tells none that can be");
        Check.wrongDoor(x, "  mix  1234", 7);
        Check.wrongDoor(x, "mix 999", 4);
        Check.wrongDoor(x, "hooks 100", 6);
        Check.wrongDoor(x, "knows 0 1 1 7", 12);
        Check.wrongDoor(x, "wish 1 1 0 0", 11);
        Check.wrongDoor(x, "wed 0 2", 6);
        Check.wrongLaw(x, "hand if 1<1234", 10);
        Check.sentence("Terms", "figures that are not just 8, or another one than 0 and 1");
        Check.wrongDoor(x, "person  0000000  00000000", 8);
        Check.wrongDoor(x, "person 00000000 000000000", 16);
        Check.wrongDoor(x, "person 00000300 00000000", 7);
        Check.wrongDoor(x, "person 00000000 00000000;person 00000000 90000000", 41);
        Check.sentence("Terms", "a word that is none");
        Check.wrongDoor(x, "mix 1;  mask 1", 8);
        Check.wrongDoor(x, "a", 0);
        Check.wrongDoor(x, "persons 00000000 00000000", 0);
        Check.wrongDoor(x, "perso 00000000 00000000", 0);
        Check.wrongDoor(x, "hand", 0);
        Check.wrongDoor(x, "mix one", 4);
        Check.wrongLaw(x, "mix 1", 0);
        Check.wrongLaw(x, "hand when own", 5);
        Check.wrongLaw(x, "hand if owned", 8);
        Check.wrongLaw(x, "hand if 1<whose", 10);
        Check.wrongLaw(x, "hand if own xor wed", 12);
        Check.wrongLaw(x, "z".repeat(400), 0);
        Check.sentence("Terms", "the ( or not that is a 7th one deep");
        Check.wrongLaw(x, "hand if ( ( ( ( ( (  (own", 21);
        Check.wrongLaw(x, "hand if ( ( ( ( ( (  not own", 21);
        Check.wrongLaw(x, "hand if not not not not not not  (own", 33);
        Check.wrongLaw(x, "hand if not not not not not not  not own", 33);
        Check.sentence("Terms", "of a LINE, a PERSON too many, the first word");
        String most = lines("mix 1", 14);
        Check.wrongDoor(x, most + ";  mix 1234", most.length() + 3);
        Check.wrongDoor(x, most + ";x", most.length() + 1);
        HungFaces ten = Check.crowd(10);
        Check.wrongDoor(ten, "mix 1;  person 1 1", 8);
        Check.wrongDoor(ten, "person", 0);
        String laws = lines("hand", 12);
        Check.wrongLaw(x, laws + ";  hand if 1234", laws.length() + 3);
        Check.sentence("Terms", "The first wrong byte: the begin of the first thing that cannot stand there");
        String[] signs = {";", "<", "(", ")", "+", "x", "1", "=", "" + (char) 255};
        for (String sign : signs) {
            Check.wrongDoor(x, sign.repeat(400), 0);
            Check.wrongLaw(x, sign.repeat(400), 0);
            Check.wrongDoor(x, " " + sign.repeat(399), 1);
            Check.wrongLaw(x, (sign + " ").repeat(200), 0);
        }
        Check.wrongDoor(x, "mix 1" + ";".repeat(395), 6);
        Check.wrongLaw(x, "hand" + ";".repeat(396), 5);
        Check.wrongLaw(x, "hand if " + "(".repeat(392), 14);
        Check.wrongDoor(x, "mix 1;mix 2;mix 101;mix 102;x", 16);
        Check.sentence("Terms", "or the text's length, if more must come.");
        Check.wrongDoor(x, "mix 1;", 6);
        Check.wrongDoor(x, "mix 1;   ", 9);
        Check.wrongDoor(x, "knows 0", 7);
        Check.wrongDoor(x, "person 00000000", 15);
        Check.wrongDoor(x, "mix 1;" + " ".repeat(394), 400);
        Check.wrongLaw(x, "hand;", 5);
        Check.wrongLaw(x, "hand if", 7);
        Check.wrongLaw(x, "hand if (1<2 ", 13);
        Check.wrongLaw(x, "hand if 1" + " ".repeat(391), 400);
    }

    private static void nothingStays() {
        Check.sentence("Terms", "Of a wrong text nothing stays.");
        HungFaces x = Check.opened(THREE + ";mix 2");
        Check.law(x, "hand if who<1");
        x.image();
        x.hours(1);
        String all = "person 11111111 11111111;wish 0 3 2;wed 0 3;knows 0 3;hooks 9;mix 77;thief 66;x";
        Check.wrongDoor(x, all, all.length() - 1);
        Check.due("the ACTS stay, too", x.count(11), 1);
        Check.wrongLaw(x, "hand;hand;fetch;fetch x", 22);
        Check.due("the ACTS stay, too", x.count(11), 1);
        Check.due("the old LAW holds", x.hours(1), 0);
        Check.due("undone past the wrong ones", x.undo() && x.undo(), true);
        Check.due("THE IMAGE stays", x.back(), true);
        Check.rightDoor(x, "wed 0 1");
        Check.wrongDoor(x, ONE + ";wish 3 3 3", ONE.length() + 10);
        Check.rightDoor(x, ONE);
        Check.due("the PERSON of a wrong text is not there", x.count(0), 4);
        Check.due("nor are those WISHES", x.wish(3, 0), 0);
    }

    private static void newObject() {
        Check.sentence("Promise 1", "Nobody.");
        HungFaces x = new HungFaces();
        Check.due("nobody", x.count(0), 0);
        Check.throwsDue("person 0", Check.INDEX, () -> x.person(0, 0));
        Check.throwsDue("face 0", Check.INDEX, () -> x.face(0, 0));
        int[] want = {0, 6, 0, 0, NONE, 0, 0, 0, 0, 0, 0, 0, NONE};
        for (int what = 0; what < want.length; what++) {
            Check.due("count " + what, x.count(what), want[what]);
        }
        Check.due("end 0", x.end(0), true);
        Check.due("no TAPE", x.end(1), false);
        Check.due("fault", x.fault(), NONE);
        Check.due("back", x.back(), false);
        Check.due("undo", x.undo(), false);
        Check.due("hours", x.hours(1), 0);
        int[] none = {x.wrong(), x.lost(), x.unclaimed(), x.swaps(), x.saved(), x.marks(), x.unknown(),
            x.passes(0, 8), x.gains(), x.clash(), x.queue(NONE), x.forged(0), x.talk(0), x.row(false), x.trial(30),
            x.span(30, true), x.span(0, false)};
        for (int i = 0; i < none.length; i++) {
            Check.due("of nobody " + i, none[i], 0);
        }
        Check.due("nobody is in a set", x.block(-1), false);
        Check.due("one way of nothing", x.ways(0), 1);
        Check.due("one way of nothing", x.fits(NONE), 1);
        Check.due("no first in a queue", x.queue(0), NONE);
        Check.due("no first HOOK", x.row(true), NONE);
        Check.due("no MARKS to be had", x.forged(1), NONE);
        HungFaces other = Check.crowd(3);
        Check.due("objects share nothing", x.count(0) + other.count(0), 3);
    }

    private static void feed() {
        Check.sentence("Promise 2",
                "Twenty bytes come behind the TAPE, of each number the highest first: how many it has");
        HungFaces x = new HungFaces();
        // "hooks 9; mix 8;thief" and then " 77" with blanks behind.
        Check.due("twenty", x.feed(0x686f6f6b, 0x7320393b, 0x206d6978, 0x20383b74, 0x68696566), 20);
        Check.due("forty", x.feed(0x20373720, 0x20202020, 0x20202020, 0x20202020, 0x20202020), 40);
        Check.due("a text", x.door(), 1);
        Check.due("hooks", x.count(1), 9);
        Check.due("mix", x.count(6), 8);
        Check.due("thief", x.count(7), 77);
        // Each of the twenty bytes has its own place: only the one told is wrong.
        for (int at = 0; at < 20; at++) {
            int[] numbers = {0x20202020, 0x20202020, 0x20202020, 0x20202020, 0x20202020};
            numbers[at / 4] ^= 0xdf << 24 - at % 4 * 8;
            x.feed(numbers[0], numbers[1], numbers[2], numbers[3], numbers[4]);
            Check.throwsDue("byte 255", Check.ARGUMENT, x::door);
            Check.due("place " + at, x.fault(), at);
        }
        Check.sentence("Promise 2", "NONE, and none come, if it would have more than 400.");
        HungFaces y = new HungFaces();
        for (int i = 1; i <= 20; i++) {
            Check.due("feed " + i, y.feed(0x20202020, 0x20202020, 0x20202020, 0x20202020, 0x20202020), 20 * i);
        }
        Check.due("it would have 420", y.feed(0, 0, 0, 0, 0), NONE);
        Check.due("none came", y.end(401), false);
        Check.due("400 stay", y.end(400), true);
        Check.due("400 blanks", y.door(), 1);
        for (int i = 0; i < 20; i++) {
            y.feed(0x20202020, 0x20202020, 0x20202020, 0x20202020, 0x20202020);
        }
        y.end(381);
        Check.due("it would have 401", y.feed(0, 0, 0, 0, 0), NONE);
        Check.due("none came", y.end(382), false);
        Check.due("all are the old ones", y.door(), 2);
        for (int i = 0; i < 20; i++) {
            y.feed(0x20202020, 0x20202020, 0x20202020, 0x20202020, 0x20202020);
        }
        y.end(380);
        Check.due("it has just 400", y.feed(0x20202020, 0x20202020, 0x20202020, 0x20202020, 0x20202078), 400);
        Check.throwsDue("the last one is wrong", Check.ARGUMENT, y::door);
        Check.due("the 400th", y.fault(), 399);
    }

    private static void end() {
        Check.sentence("Promise 3", "The TAPE has its first n bytes alone: true");
        HungFaces x = new HungFaces();
        Check.due("0 of an empty one", x.end(0), true);
        Check.tape(x, "mix 123");
        Check.due("all", x.end(7), true);
        Check.due("the first 5", x.end(5), true);
        Check.due("those behind are gone", x.end(6), false);
        Check.due("mix 1", x.door(), 1);
        Check.due("mix 1", x.count(6), 1);
        Check.tape(x, "mix 2");
        x.end(4);
        Check.due("behind the first 4", x.feed(0x33202020, 0x20202020, 0x20202020, 0x20202020, 0x20202020), 24);
        Check.due("mix 3", x.door(), 2);
        Check.due("mix 3", x.count(6), 3);
        Check.tape(x, "x");
        Check.due("none of them", x.end(0), true);
        Check.due("an empty text", x.door(), 3);
        Check.sentence("Promise 3", "false, and nothing happens, if it has fewer, or n is below 0.");
        Check.tape(x, "mix 64");
        int[] wrong = {7, 20, 400, MOST, -1, -6, LEAST};
        for (int n : wrong) {
            Check.due("end " + n, x.end(n), false);
        }
        Check.due("the text is there", x.door(), 4);
        Check.due("as it was", x.count(6), 64);
        Check.due("1 of an empty one", x.end(1), false);
    }

    private static void door() {
        Check.sentence("Promise 4", "Uses the TAPE up: a text of THE DOOR: how many there are.");
        HungFaces x = new HungFaces();
        Check.tape(x, "mix 1");
        Check.due("the first", x.door(), 1);
        Check.due("used up", x.end(1), false);
        Check.due("an empty one", x.door(), 2);
        Check.due("MIX stays", x.count(6), 1);
        Check.sentence("Promise 4", "IllegalArgumentException: it is wrong; UnsupportedOperationException:"
                + " there are 12.");
        Check.tape(x, "mix 2 x");
        Check.throwsDue("wrong", Check.ARGUMENT, x::door);
        Check.due("used up", x.end(1), false);
        Check.due("there are two", x.count(3), 2);
        for (int i = 3; i <= 12; i++) {
            Check.due("there are " + i, x.door(), i);
        }
        x.hours(1);
        Check.wrongDoor(x, "mix 2 x", 6);
        Check.due("wrong comes first", x.count(11), 1);
        Check.tape(x, "mix 3");
        String before = Check.seen(x);
        Check.throwsDue("there are 12", Check.UNSUPPORTED, x::door);
        Check.due("nothing changes", Check.seen(x).equals(before), true);
        Check.due("used up", x.end(1), false);
        Check.due("the ACTS stay", x.undo(), true);
        Check.due("MIX stays", x.count(6), 1);
        Check.rightLaw(x, "hand", 1);
    }

    private static void law() {
        Check.sentence("Promise 5",
                "Uses the TAPE up: THE LAW: how many LINES. IllegalArgumentException: the text is wrong.");
        HungFaces x = Check.opened(THREE);
        Check.due("no text", x.count(4), NONE);
        Check.tape(x, "hand;hand;fetch");
        Check.due("three", x.law(), 3);
        Check.due("used up", x.end(1), false);
        Check.due("an empty one", x.law(), 0);
        Check.due("none", x.count(4), 0);
        Check.tape(x, "fetch;");
        Check.refusedText(x, "wrong", x::law, 6);
        Check.due("used up", x.end(1), false);
        Check.due("none still", x.count(4), 0);
        for (int i = 0; i < 30; i++) {
            Check.rightLaw(x, "hand if 0>1", 1);
        }
        Check.due("as many texts as one likes", x.hours(2), 0);
        Check.due("no text of THE DOOR", x.count(3), 1);
    }

    private static void fault() {
        Check.sentence("Promise 6", "The first wrong byte of the latest text that was read; NONE without one,"
                + " and ahead of any.");
        HungFaces x = new HungFaces();
        Check.due("ahead of any", x.fault(), NONE);
        Check.tape(x, "xx");
        Check.due("not read yet", x.fault(), NONE);
        Check.throwsDue("door", Check.ARGUMENT, x::door);
        Check.due("byte 0", x.fault(), 0);
        Check.tape(x, "hand if");
        Check.throwsDue("law", Check.ARGUMENT, x::law);
        Check.due("of THE LAW", x.fault(), 7);
        Check.due("and again", x.fault(), 7);
        Check.tape(x, "1");
        Check.throwsDue("SAID is no text", Check.ARGUMENT, x::clash);
        Check.due("the latest text", x.fault(), 7);
        x.image();
        x.hours(1);
        x.undo();
        x.back();
        Check.due("going back leaves it", x.fault(), 7);
        Check.due("a right one", x.law(), 0);
        Check.due("without one", x.fault(), NONE);
        Check.wrongDoor(x, "mix", 3);
        for (int texts = 1; texts <= 12; texts++) {
            Check.due("a right one", x.door(), texts);
            Check.due("without one", x.fault(), NONE);
        }
        Check.wrongDoor(x, "mix", 3);
        Check.throwsDue("a right 13th", Check.UNSUPPORTED, x::door);
        Check.due("it was read", x.fault(), NONE);
    }
}
