/** How HungFaces is used: a text is told over the TAPE, then calls act and ask. README.md shows this file. */
public final class Example {
    /** Puts a text of at most 400 bytes on the TAPE, in place of what lies there. */
    static void tell(HungFaces x, String text) {
        x.end(0);
        for (int at = 0; at < text.length(); at += 20) {
            int[] four = new int[5];
            for (int i = 0; i < 20; i++) {
                int sign = at + i < text.length() ? text.charAt(at + i) : 0;
                four[i / 4] = four[i / 4] << 8 | sign;
            }
            x.feed(four[0], four[1], four[2], four[3], four[4]);
        }
        x.end(text.length());
    }

    public static void main(String[] args) {
        HungFaces x = new HungFaces();
        tell(x, "person 11000000 10000000; person 10100000 01000000; wed 0 1; hooks 4");
        x.door();           // 1: there is one text of THE DOOR
        x.count(0);         // 2: PEOPLE
        x.face(1, 0);       // 5: MARKS 0 and 2

        x.hand(0, 2);       // 0: FACE 0 hangs on HOOK 2, and PERSON 0 has its TICKET
        x.hand(1, 0);       // 1
        x.mix(0, 1);        // 0: PERSON 0 has the TICKET of HOOK 0 now
        x.fetch(0);         // 1: PERSON 0 WEARS FACE 1
        x.fetch(1);         // 0
        x.wrong();          // 3: both, as bits
        x.saved();          // 3: they are each other's SPOUSE
        x.swaps();          // 1
        x.undo();           // true: PERSON 1 has not FETCHED yet
        x.person(1, 1);     // NONE: PERSON 1 WEARS no FACE
        try {
            x.hand(1, 3);   // throws IllegalStateException: there is no FACE to hand in
        } catch (IllegalStateException e) {
            System.out.println("It cannot be HANDED in, and nothing has changed.");
        }

        tell(x, "hand if own; fetch if hour > 1 or not wed");
        x.law();            // 2: LINES
        x.hours(2);         // 0: PERSON 0 WEARS another one's FACE, and PERSON 1 has to wait
        x.hours(1);         // 1: PERSON 1 FETCHED
        x.log(0, 3);        // 0: the FACE in the latest row of THE LOG

        tell(x, "mix 101");
        try {
            x.door();       // throws IllegalArgumentException: MIX is 0 to 100
        } catch (IllegalArgumentException e) {
            System.out.println("The text is wrong at byte " + x.fault());
        }
        x.fault();          // 4: the first wrong byte
        x.count(6);         // 0: of a wrong text nothing stays

        tell(x, "\0\1\1");  // SAID: the FACE of PERSON 0 is number 1
        x.fits(1);          // 0: so that of PERSON 1 is number 0
    }
}
