import java.util.Arrays;
import java.util.NoSuchElementException;

/** A carnival at whose door faces are handed in; DOC.md tells what each call promises. */
public final class HungFaces {
    public static final int NONE = -1;

    private static final int MOST_PEOPLE = 10;
    private static final int MOST_HOOKS = 12;
    private static final int FIRST_HOOKS = 6;
    private static final int MARKS_OF_A_FACE = 8;
    private static final int ALL_MARKS = 255;
    private static final int MOST_TAPE = 400;
    private static final int FED_AT_ONCE = 20;
    private static final int MOST_TEXTS = 12;
    private static final int MOST_DOOR_LINES = 14;
    private static final int MOST_LAW_LINES = 12;
    private static final int MOST_DEEP = 6;
    private static final int MOST_UNDONE = 12;
    private static final int MOST_SAID = 12;
    private static final int BYTES_OF_SAID = 3;
    private static final int MOST_HOURS = 50;
    private static final int MOST_TRIAL_HOURS = 30;
    private static final int MOST_ROUNDS = 20;
    private static final int SPAN_SEEDS = 6;
    private static final int HUNDRED = 100;

    private static final int LOG_ROWS = 60;
    private static final int LOG_HOUR = 0;
    private static final int LOG_PERSON = 1;
    private static final int LOG_HOOK = 2;
    private static final int LOG_FACE = 3;
    private static final int LOG_WHICH = 4;
    private static final int NO_ROW = -99;
    private static final int HANDED = 0;
    private static final int FETCHED = 1;
    private static final int STOLEN = 2;
    private static final int CHANGED = 3;

    private static final int BLANK = 32;
    /* Kinds of things in a text: a sign is its own byte, a word is 1000 and its place among WORDS. */
    private static final int THING_END = -1;
    private static final int THING_NUMBER = 256;
    private static final int UNKNOWN_WORD = 257;
    private static final String WORDS =
            "person wish wed knows hooks mix thief hand fetch if or and not own who hour hook marks hung free ";
    private static final int FIRST_WORD = 1000;
    private static final int WORD_PERSON = 1000;
    private static final int WORD_WISH = 1001;
    private static final int WORD_WED = 1002;
    private static final int WORD_KNOWS = 1003;
    private static final int WORD_HOOKS = 1004;
    private static final int WORD_MIX = 1005;
    private static final int WORD_THIEF = 1006;
    private static final int WORD_HAND = 1007;
    private static final int WORD_FETCH = 1008;
    private static final int WORD_IF = 1009;
    private static final int WORD_OR = 1010;
    private static final int WORD_AND = 1011;
    private static final int WORD_NOT = 1012;
    private static final int WORD_OWN = 1013;
    private static final int WORD_WHO = 1014;
    private static final int WORD_HOUR = 1015;
    private static final int WORD_HOOK = 1016;
    private static final int WORD_MARKS = 1017;
    private static final int WORD_HUNG = 1018;
    private static final int WORD_FREE = 1019;

    /* In THE LAW's code, what joins two values stands behind both, and the word of a LINE behind its condition. */
    private static final int JOIN_PLUS = 1100;
    private static final int JOIN_LESS = 1101;
    private static final int JOIN_MORE = 1102;
    private static final int JOIN_AND = 1103;
    private static final int JOIN_OR = 1104;
    private static final int NO_TICKET_HOOK = 99;
    /* Three values wait in a comparison, one for "and", one for "or", and two more in each of 6 brackets. */
    private static final int STACK_SIZE = 24;

    private final Tape tape;
    private final State now;
    private final State scratch;
    private final State kept;
    private final Past past;
    private final DoorReader doorReader;
    private final LawReader lawReader;
    private final Said said;
    private final Market market;
    private boolean imageKept;
    private int fault;

    public HungFaces() {
        Law noLaw = new Law(NONE, 0);
        tape = new Tape();
        now = new State(noLaw);
        scratch = new State(noLaw);
        kept = new State(noLaw);
        past = new Past(noLaw);
        Cutter cutter = new Cutter(tape);
        doorReader = new DoorReader(cutter, now, scratch);
        lawReader = new LawReader(cutter);
        said = new Said();
        market = new Market();
        fault = NONE;
    }

    // ---- the TAPE and the texts ----

    public int feed(int a, int b, int c, int d, int e) {
        if (tape.length + FED_AT_ONCE > MOST_TAPE) {
            return NONE;
        }
        tape.addFour(a);
        tape.addFour(b);
        tape.addFour(c);
        tape.addFour(d);
        tape.addFour(e);
        return tape.length;
    }

    public boolean end(int n) {
        if (n < 0 || n > tape.length) {
            return false;
        }
        tape.length = n;
        return true;
    }

    public int door() throws IllegalArgumentException, UnsupportedOperationException {
        fault = doorReader.readText();
        tape.length = 0;
        if (fault != NONE) {
            throw new IllegalArgumentException("the text of THE DOOR is wrong");
        }
        if (now.texts >= MOST_TEXTS) {
            throw new UnsupportedOperationException("there are 12 texts of THE DOOR");
        }
        now.copyFrom(scratch);
        now.texts++;
        past.forget();
        return now.texts;
    }

    public int law() throws IllegalArgumentException {
        fault = lawReader.readText();
        tape.length = 0;
        if (fault != NONE) {
            throw new IllegalArgumentException("the text of THE LAW is wrong");
        }
        now.law = lawReader.madeLaw();
        past.forget();
        return now.law.lines;
    }

    public int fault() {
        return fault;
    }

    // ---- what there is ----

    public int person(int person, int what) throws IndexOutOfBoundsException, NoSuchElementException {
        needPerson(person);
        switch (what) {
            case 0:
                return now.maskMarks[person];
            case 1:
                return now.wears[person];
            case 2:
                return now.tickets[person];
            case 3:
                return now.spouses[person];
            case 4:
                return now.knows[person];
            case 5:
                return now.ringOf(person);
            default:
                throw new NoSuchElementException("a PERSON has no such thing");
        }
    }

    public int face(int face, int what) throws IndexOutOfBoundsException, NoSuchElementException {
        needPerson(face);
        switch (what) {
            case 0:
                return now.faceMarks[face];
            case 1:
                return now.wearerOf(face);
            case 2:
                return now.hookOf(face);
            case 3:
                return now.sameAs(now.faceMarks, face);
            default:
                throw new NoSuchElementException("a FACE has no such thing");
        }
    }

    public int hook(int hook) throws IndexOutOfBoundsException {
        needHook(hook);
        return now.hung[hook];
    }

    public int wish(int person, int k) throws IndexOutOfBoundsException {
        needPerson(person);
        return k >= 0 && k < now.people ? now.wishes[person * MOST_PEOPLE + k] : NONE;
    }

    public int thinks(int person, int other) throws IndexOutOfBoundsException, IllegalArgumentException {
        needTwo(person, other);
        return now.thinks[person * MOST_PEOPLE + other];
    }

    // ---- ACTS ----

    public int hand(int person, int hook) throws IndexOutOfBoundsException, IllegalStateException {
        needPerson(person);
        needHook(hook);
        if (now.wears[person] == NONE || now.tickets[person] != NONE || now.hung[hook] != NONE) {
            throw new IllegalStateException("it cannot be HANDED in");
        }
        past.keep(now);
        return now.handIn(person, hook);
    }

    public int fetch(int person) throws IndexOutOfBoundsException, IllegalStateException {
        needPerson(person);
        if (now.tickets[person] == NONE || now.wears[person] != NONE) {
            throw new IllegalStateException("it cannot be FETCHED");
        }
        past.keep(now);
        return now.fetchBy(person);
    }

    public int mix(int person, int other)
            throws IndexOutOfBoundsException, IllegalArgumentException, IllegalStateException {
        needTwo(person, other);
        if (now.tickets[person] == NONE || now.tickets[other] == NONE) {
            throw new IllegalStateException("one has no TICKET");
        }
        past.keep(now);
        now.changeTickets(person, other);
        return now.tickets[person];
    }

    public int steal(int person, int hook) throws IndexOutOfBoundsException, IllegalStateException {
        needPerson(person);
        needHook(hook);
        if (now.wears[person] != NONE || now.hung[hook] == NONE) {
            throw new IllegalStateException("it cannot be STOLEN");
        }
        past.keep(now);
        return now.stealBy(person, hook);
    }

    public int change(int person, int other)
            throws IndexOutOfBoundsException, IllegalArgumentException, IllegalStateException {
        needTwo(person, other);
        if (now.wears[person] == NONE || now.wears[other] == NONE) {
            throw new IllegalStateException("one WEARS no FACE");
        }
        past.keep(now);
        int given = now.wears[person];
        now.wears[person] = now.wears[other];
        now.wears[other] = given;
        return now.wears[person];
    }

    public int shave(int face, int mark) throws IndexOutOfBoundsException, IllegalStateException {
        needPerson(face);
        needMark(mark);
        if (!has(now.faceMarks[face], mark)) {
            throw new IllegalStateException("the FACE has not that MARK");
        }
        past.keep(now);
        now.faceMarks[face] &= ~(1 << mark);
        return Integer.bitCount(now.faceMarks[face]);
    }

    public int graft(int from, int to, int mark)
            throws IndexOutOfBoundsException, IllegalArgumentException, IllegalStateException {
        needPerson(from);
        needPerson(to);
        needMark(mark);
        needUnlike(from, to);
        if (!has(now.faceMarks[from], mark) || has(now.faceMarks[to], mark)) {
            throw new IllegalStateException("the MARK cannot be GRAFTED");
        }
        past.keep(now);
        now.faceMarks[from] &= ~(1 << mark);
        now.faceMarks[to] |= 1 << mark;
        return Integer.bitCount(now.faceMarks[to]);
    }

    public int meet(int person, int other) throws IndexOutOfBoundsException, IllegalArgumentException {
        needTwo(person, other);
        past.keep(now);
        return now.tellAll(person, other);
    }

    public int hours(int n) throws IllegalArgumentException {
        needNumber(n, 1, MOST_HOURS);
        past.keep(now);
        int moves = 0;
        for (int i = 0; i < n; i++) {
            moves += now.passHour();
        }
        return moves;
    }

    // ---- who has whose ----

    public int wrong() {
        return now.wrongOnes();
    }

    public int lost() {
        int bits = 0;
        for (int face = 0; face < now.people; face++) {
            if (now.isLost(face)) {
                bits |= 1 << face;
            }
        }
        return bits;
    }

    public int unclaimed() {
        int bits = 0;
        for (int hook = 0; hook < now.hooks; hook++) {
            if (now.hung[hook] != NONE && !now.ticketIsOut(hook)) {
                bits |= 1 << now.hung[hook];
            }
        }
        return bits;
    }

    public int swaps() {
        // Each FACE away from its PERSON costs a swap, but the last one of a closed ring comes home by itself.
        int away = 0;
        int rings = 0;
        for (int person = 0; person < now.people; person++) {
            if (now.wears[person] != person && !now.isLost(person)) {
                away++;
            }
            if (leadsClosedRing(person)) {
                rings++;
            }
        }
        return away - rings;
    }

    private boolean leadsClosedRing(int person) {
        int worn = now.wears[person];
        if (worn == NONE || worn == person) {
            return false;
        }
        int ring = now.ringOf(person);
        return has(ring, worn) && Integer.numberOfTrailingZeros(ring) == person;
    }

    public int saved() {
        int bits = 0;
        for (int person = 0; person < now.people; person++) {
            int spouse = now.spouses[person];
            if (spouse != NONE && now.wears[person] == spouse && now.wears[spouse] == person) {
                bits |= 1 << person;
            }
        }
        return bits;
    }

    // ---- MARKS ----

    public int marks() {
        int best = NONE;
        for (int set = 0; set <= ALL_MARKS; set++) {
            if (isFewer(set, best) && partsAllFaces(set)) {
                best = set;
            }
        }
        return best;
    }

    private boolean partsAllFaces(int set) {
        for (int face = 0; face < now.people; face++) {
            for (int other = 0; other < face; other++) {
                if (((now.faceMarks[face] ^ now.faceMarks[other]) & set) == 0) {
                    return false;
                }
            }
        }
        return true;
    }

    public int unknown() {
        int bits = 0;
        for (int person = 0; person < now.people; person++) {
            if (now.sameAs(now.maskMarks, person) != 0) {
                bits |= 1 << person;
            }
        }
        return bits;
    }

    public int passes(int marks, int n) throws IllegalArgumentException {
        needNumber(marks, 0, ALL_MARKS);
        needNumber(n, 0, MARKS_OF_A_FACE);
        int bits = 0;
        for (int person = 0; person < now.people; person++) {
            if (Integer.bitCount(now.faceMarks[person] ^ marks) <= n) {
                bits |= 1 << person;
            }
        }
        return bits;
    }

    public int forged(int marks) throws IllegalArgumentException {
        needNumber(marks, 0, ALL_MARKS);
        int hanging = now.hangingFaces();
        int best = NONE;
        for (int set = 0; set < 1 << now.people; set++) {
            if ((set & ~hanging) == 0 && isFewer(set, best) && (marks & ~marksTogether(set)) == 0) {
                best = set;
            }
        }
        return best;
    }

    private int marksTogether(int faces) {
        int bits = 0;
        for (int face = 0; face < now.people; face++) {
            if (has(faces, face)) {
                bits |= now.faceMarks[face];
            }
        }
        return bits;
    }

    // ---- WISHES ----

    public int core(int person) throws IndexOutOfBoundsException {
        needPerson(person);
        market.trade(now);
        return market.gets[person];
    }

    public int gains() {
        market.trade(now);
        int gained = 0;
        for (int person = 0; person < now.people; person++) {
            if (market.gets[person] != now.wears[person]) {
                gained++;
            }
        }
        return gained;
    }

    public boolean block(int people) throws IllegalStateException {
        int set = people & (1 << now.people) - 1;
        for (int person = 0; person < now.people; person++) {
            if (has(set, person) && now.wears[person] == NONE) {
                throw new IllegalStateException("one of the set WEARS no FACE");
            }
        }
        return market.hasDearerRing(now, set);
    }

    // ---- SAID ----

    public int fits(int person) throws IndexOutOfBoundsException, IllegalArgumentException {
        boolean told = said.readTape(tape, now.people);
        tape.length = 0;
        if (person != NONE) {
            needPerson(person);
        }
        needTold(told);
        return person == NONE ? said.ownersOfAll() : said.sureFace(person);
    }

    public int ask(int person) throws IndexOutOfBoundsException, IllegalArgumentException {
        boolean told = said.readTape(tape, now.people);
        tape.length = 0;
        needPerson(person);
        needTold(told);
        return said.bestQuestion(person);
    }

    public int clash() throws IllegalArgumentException {
        boolean told = said.readTape(tape, now.people);
        tape.length = 0;
        needTold(told);
        return said.fewestApart();
    }

    // ---- TICKETS and HOOKS ----

    public int queue(int k) {
        // All HOOKS lie on one side of the porter, so no order beats serving them as they come along the row.
        if (k == NONE) {
            return minutesAlongTheRow();
        }
        for (int person = 0; person < now.people; person++) {
            if (now.tickets[person] != NONE && servedAheadOf(person) == k) {
                return person;
            }
        }
        return NONE;
    }

    private int minutesAlongTheRow() {
        int served = 0;
        int minutes = 0;
        for (int person = 0; person < now.people; person++) {
            if (now.tickets[person] != NONE) {
                served++;
                minutes += now.tickets[person] + served;
            }
        }
        return minutes;
    }

    private int servedAheadOf(int person) {
        int ahead = 0;
        for (int other = 0; other < now.people; other++) {
            int difference = now.tickets[other] - now.tickets[person];
            if (now.tickets[other] != NONE && (difference < 0 || difference == 0 && other < person)) {
                ahead++;
            }
        }
        return ahead;
    }

    public int ways(int m) throws IllegalArgumentException {
        needNumber(m, 0, MOST_PEOPLE);
        int holders = Integer.bitCount(now.ticketHolders());
        return m > holders ? 0 : chosen(holders, m) * allElsewhere(holders - m);
    }

    private static int chosen(int all, int some) {
        int sets = 1;
        for (int i = 0; i < some; i++) {
            sets = sets * (all - i) / (i + 1);
        }
        return sets;
    }

    private static int allElsewhere(int tickets) {
        int before = 0;
        int orders = 1;
        for (int i = 1; i <= tickets; i++) {
            int more = (i - 1) * (orders + before);
            before = orders;
            orders = more;
        }
        return orders;
    }

    public int talk(int hook) throws IndexOutOfBoundsException {
        needHook(hook);
        int bits = 0;
        for (int i = hook; i >= 0 && now.hung[i] != NONE; i--) {
            bits |= 1 << now.hung[i];
        }
        for (int i = hook; i < now.hooks && now.hung[i] != NONE; i++) {
            bits |= 1 << now.hung[i];
        }
        return bits;
    }

    public int row(boolean begin) {
        int first = NONE;
        int longest = 0;
        int length = 0;
        for (int hook = 0; hook < now.hooks; hook++) {
            length = now.hung[hook] == NONE ? 0 : length + 1;
            if (length > longest) {
                longest = length;
                first = hook - length + 1;
            }
        }
        return begin ? first : longest;
    }

    // ---- who KNOWS whom ----

    public int chain(int person, int other) throws IndexOutOfBoundsException, IllegalArgumentException {
        needTwo(person, other);
        int reached = 1 << person;
        for (int steps = 1; steps < now.people; steps++) {
            reached |= now.knownToAny(reached);
            if (has(reached, other)) {
                return steps;
            }
        }
        return NONE;
    }

    public int hears(int person, int n) throws IndexOutOfBoundsException, IllegalArgumentException {
        needPerson(person);
        needNumber(n, 0, MOST_ROUNDS);
        scratch.copyFrom(now);
        for (int i = 0; i < n; i++) {
            scratch.meetAllWhoKnow();
        }
        return scratch.knows[person];
    }

    // ---- TRIALS and THE LOG ----

    public int trial(int n) throws IllegalArgumentException {
        needNumber(n, 0, MOST_TRIAL_HOURS);
        return wrongAfter(n, now.seed);
    }

    public int span(int n, boolean most) throws IllegalArgumentException {
        needNumber(n, 0, MOST_TRIAL_HOURS);
        int best = wrongAfter(n, 1);
        for (int seed = 2; seed <= SPAN_SEEDS; seed++) {
            int wrongOnes = wrongAfter(n, seed);
            best = most ? Math.max(best, wrongOnes) : Math.min(best, wrongOnes);
        }
        return best;
    }

    private int wrongAfter(int hours, int seed) {
        scratch.copyFrom(now);
        scratch.seed = seed;
        for (int i = 0; i < hours; i++) {
            scratch.passHour();
        }
        return Integer.bitCount(scratch.wrongOnes());
    }

    public int led(int face, boolean who) throws IndexOutOfBoundsException {
        needPerson(face);
        int rows = 0;
        int latest = NONE;
        for (int ago = now.log.rows - 1; ago >= 0; ago--) {
            int which = now.log.cell(ago, LOG_WHICH);
            if (now.log.cell(ago, LOG_FACE) == face && (which == FETCHED || which == STOLEN)) {
                rows++;
                latest = now.log.cell(ago, LOG_PERSON);
            }
        }
        return who ? latest : rows;
    }

    public int log(int ago, int what) throws NoSuchElementException {
        if (what < LOG_HOUR || what > LOG_WHICH) {
            throw new NoSuchElementException("THE LOG has no such thing");
        }
        return now.log.cell(ago, what);
    }

    public int seed(int n) {
        int before = now.seed;
        now.seed = n;
        return before;
    }

    // ---- UNDONE, and THE IMAGE ----

    public boolean undo() {
        return past.takeBack(now);
    }

    public void image() {
        kept.copyFrom(now);
        imageKept = true;
    }

    public boolean back() {
        if (!imageKept) {
            return false;
        }
        now.copyFrom(kept);
        past.forget();
        return true;
    }

    public int count(int what) {
        switch (what) {
            case 0:
                return now.people;
            case 1:
                return now.hooks;
            case 2:
                return now.hungCount();
            case 3:
                return now.texts;
            case 4:
                return now.law.lines;
            case 5:
                return now.hour;
            case 6:
                return now.mix;
            case 7:
                return now.thief;
            case 8:
                return now.ticketHolders();
            case 9:
                return now.allMarksCount();
            case 10:
                return now.log.rows;
            case 11:
                return past.size;
            default:
                return NONE;
        }
    }

    // ---- what calls need ----

    private void needPerson(int person) {
        if (!now.hasPerson(person)) {
            throw new IndexOutOfBoundsException("there is no such PERSON or FACE");
        }
    }

    private void needHook(int hook) {
        if (hook < 0 || hook >= now.hooks) {
            throw new IndexOutOfBoundsException("there is no such HOOK");
        }
    }

    private static void needMark(int mark) {
        if (mark < 0 || mark >= MARKS_OF_A_FACE) {
            throw new IndexOutOfBoundsException("there is no such MARK");
        }
    }

    private static void needUnlike(int one, int other) {
        if (one == other) {
            throw new IllegalArgumentException("both are one");
        }
    }

    private void needTwo(int person, int other) {
        needPerson(person);
        needPerson(other);
        needUnlike(person, other);
    }

    private static void needNumber(int number, int least, int most) {
        if (number < least || number > most) {
            throw new IllegalArgumentException("the number is none");
        }
    }

    private static void needTold(boolean told) {
        if (!told) {
            throw new IllegalArgumentException("the TAPE is not SAID");
        }
    }

    private static boolean has(int bits, int number) {
        return (bits >>> number & 1) != 0;
    }

    /** Sets are tried from the least on, so an equal size never takes the place of an earlier one. */
    private static boolean isFewer(int set, int best) {
        return best == NONE || Integer.bitCount(set) < Integer.bitCount(best);
    }

    /** The bytes that were fed and not used up yet. */
    private static final class Tape {
        final int[] bytes = new int[MOST_TAPE];
        int length;

        void addFour(int number) {
            for (int shift = 24; shift >= 0; shift -= 8) {
                if (length < MOST_TAPE) {
                    bytes[length] = number >>> shift & 255;
                    length++;
                }
            }
        }

        int byteAt(int index) {
            return index >= 0 && index < length ? bytes[index] : THING_END;
        }
    }

    /** Cuts a text into words, numbers and signs, and goes along them. */
    private static final class Cutter {
        private final Tape tape;
        private final int[] kinds = new int[MOST_TAPE + 1];
        private final int[] begins = new int[MOST_TAPE + 1];
        private final int[] ends = new int[MOST_TAPE + 1];
        private int at;

        Cutter(Tape tape) {
            this.tape = tape;
        }

        void cutText() {
            int size = 0;
            int begin = pastBlanks(0);
            while (begin < tape.length && size < MOST_TAPE) {
                kinds[size] = kindAt(begin);
                begins[size] = begin;
                ends[size] = endOf(kinds[size], begin);
                if (kinds[size] == UNKNOWN_WORD) {
                    kinds[size] = wordOf(begin, ends[size]);
                }
                begin = pastBlanks(ends[size]);
                size++;
            }
            kinds[size] = THING_END;
            begins[size] = tape.length;
            ends[size] = tape.length;
            at = 0;
        }

        private int pastBlanks(int from) {
            int past = from;
            while (past < tape.length && tape.byteAt(past) == BLANK) {
                past++;
            }
            return past;
        }

        private int kindAt(int index) {
            int sign = tape.byteAt(index);
            if (sign >= 'a' && sign <= 'z') {
                return UNKNOWN_WORD;
            }
            return sign >= '0' && sign <= '9' ? THING_NUMBER : sign;
        }

        private int endOf(int kind, int begin) {
            int end = begin + 1;
            if (kind == UNKNOWN_WORD || kind == THING_NUMBER) {
                while (end < tape.length && kindAt(end) == kind) {
                    end++;
                }
            }
            return end;
        }

        private int wordOf(int begin, int end) {
            int word = FIRST_WORD;
            int from = 0;
            for (int i = 0; i < WORDS.length(); i++) {
                if (WORDS.charAt(i) == BLANK) {
                    if (i - from == end - begin && isSpelt(from, begin, end)) {
                        return word;
                    }
                    word++;
                    from = i + 1;
                }
            }
            return UNKNOWN_WORD;
        }

        private boolean isSpelt(int from, int begin, int end) {
            for (int i = begin; i < end; i++) {
                int place = from + i - begin;
                if (place >= WORDS.length() || WORDS.charAt(place) != tape.byteAt(i)) {
                    return false;
                }
            }
            return true;
        }

        int kindHere() {
            return kinds[at];
        }

        int beginHere() {
            return begins[at];
        }

        void goOn() {
            if (kinds[at] != THING_END && at < MOST_TAPE) {
                at++;
            }
        }

        /** NONE if no number of 1 to 3 digits stands here. */
        int numberHere() {
            if (kinds[at] != THING_NUMBER || ends[at] - begins[at] > 3) {
                return NONE;
            }
            int number = 0;
            for (int i = begins[at]; i < ends[at]; i++) {
                number = number * 10 + tape.byteAt(i) - '0';
            }
            return number;
        }

        /** The MARKS told by just 8 figures, the first one MARK 0; NONE if they do not stand here. */
        int figuresHere() {
            if (kinds[at] != THING_NUMBER || ends[at] - begins[at] != MARKS_OF_A_FACE) {
                return NONE;
            }
            int bits = 0;
            for (int mark = 0; mark < MARKS_OF_A_FACE; mark++) {
                int figure = tape.byteAt(begins[at] + mark) - '0';
                if (figure > 1) {
                    return NONE;
                }
                bits |= figure << mark;
            }
            return bits;
        }
    }

    /** What both kinds of texts share: LINES with ; between them, and the first wrong byte. */
    private abstract static class TextReader {
        final Cutter cutter;
        private final int mostLines;
        private int wrongByte;
        int lines;

        TextReader(Cutter cutter, int mostLines) {
            this.cutter = cutter;
            this.mostLines = mostLines;
        }

        abstract void startText();

        abstract void readLine();

        /** The first wrong byte; NONE without one. */
        final int readText() {
            wrongByte = NONE;
            lines = 0;
            cutter.cutText();
            startText();
            boolean more = !isHere(THING_END);
            while (more && lines < mostLines) {
                readLine();
                lines++;
                more = isRight() && isHere(';');
                if (more) {
                    cutter.goOn();
                }
            }
            accept(!more && isHere(THING_END));
            return wrongByte;
        }

        final boolean isRight() {
            return wrongByte == NONE;
        }

        final boolean isHere(int kind) {
            return cutter.kindHere() == kind;
        }

        /** Goes on behind the thing that stands here, if it can stand; else its begin is the wrong byte. */
        final void accept(boolean canStand) {
            if (!isRight()) {
                return;
            }
            if (canStand) {
                cutter.goOn();
            } else {
                wrongByte = cutter.beginHere();
            }
        }
    }

    /** Reads a text of THE DOOR into a draft, so that of a wrong text nothing stays. */
    private static final class DoorReader extends TextReader {
        private final State now;
        private final State draft;
        private final int[] toldFaces = new int[MOST_PEOPLE];

        DoorReader(Cutter cutter, State now, State draft) {
            super(cutter, MOST_DOOR_LINES);
            this.now = now;
            this.draft = draft;
        }

        void startText() {
            draft.copyFrom(now);
        }

        void readLine() {
            switch (cutter.kindHere()) {
                case WORD_PERSON:
                    readPerson();
                    break;
                case WORD_WISH:
                    readWish();
                    break;
                case WORD_WED:
                    readWed();
                    break;
                case WORD_KNOWS:
                    readKnows();
                    break;
                default:
                    readSetting();
                    break;
            }
        }

        private void readSetting() {
            int word = cutter.kindHere();
            accept(word == WORD_HOOKS || word == WORD_MIX || word == WORD_THIEF);
            if (!isRight()) {
                return;
            }
            boolean ofHooks = word == WORD_HOOKS;
            int least = ofHooks ? Math.max(1, draft.lastTakenHook() + 1) : 0;
            int number = readNumber(least, ofHooks ? MOST_HOOKS : HUNDRED);
            if (!isRight()) {
                return;
            }
            if (ofHooks) {
                draft.hooks = number;
            } else if (word == WORD_MIX) {
                draft.mix = number;
            } else {
                draft.thief = number;
            }
        }

        private int readNumber(int least, int most) {
            int number = cutter.numberHere();
            accept(number >= least && number <= most);
            return number;
        }

        private int readFigures() {
            int bits = cutter.figuresHere();
            accept(bits != NONE);
            return bits;
        }

        private void readPerson() {
            accept(draft.people < MOST_PEOPLE);
            int face = readFigures();
            int mask = readFigures();
            if (isRight()) {
                draft.addPerson(face, mask);
            }
        }

        private void readWish() {
            cutter.goOn();
            int who = readNumber(0, draft.people - 1);
            int seen = 0;
            int told = 0;
            boolean more = isRight();
            while (more && told < MOST_PEOPLE) {
                int face = cutter.numberHere();
                accept(draft.hasPerson(face) && !has(seen, face));
                if (isRight()) {
                    seen |= 1 << face;
                    toldFaces[told] = face;
                }
                told++;
                more = isRight() && isHere(THING_NUMBER);
            }
            if (isRight()) {
                draft.setWishes(who, toldFaces, told);
            }
        }

        private void readWed() {
            cutter.goOn();
            int one = cutter.numberHere();
            accept(draft.canWed(one));
            int other = cutter.numberHere();
            accept(draft.canWed(other) && other != one);
            if (isRight()) {
                draft.spouses[one] = other;
                draft.spouses[other] = one;
            }
        }

        private void readKnows() {
            cutter.goOn();
            int who = readNumber(0, draft.people - 1);
            boolean more = isRight();
            for (int i = 0; i < MOST_TAPE && more; i++) {
                int whom = cutter.numberHere();
                accept(draft.hasPerson(whom) && whom != who);
                if (isRight()) {
                    draft.knows[who] |= 1 << whom;
                }
                more = isRight() && isHere(THING_NUMBER);
            }
        }
    }

    /** Reads a text of THE LAW into code in which what joins values stands behind them. */
    private static final class LawReader extends TextReader {
        private final int[] code = new int[MOST_TAPE];
        private int size;

        LawReader(Cutter cutter) {
            super(cutter, MOST_LAW_LINES);
        }

        void startText() {
            size = 0;
        }

        void readLine() {
            int word = cutter.kindHere();
            accept(word == WORD_HAND || word == WORD_FETCH);
            if (isRight() && isHere(WORD_IF)) {
                cutter.goOn();
                readCondition(0);
            } else {
                emit(1);
            }
            emit(word);
        }

        Law madeLaw() {
            Law made = new Law(lines, size);
            made.takeCode(code);
            return made;
        }

        /** Each word of the code comes of a byte of its own in the text, so the code is never the longer one. */
        private void emit(int word) {
            if (size < MOST_TAPE) {
                code[size] = word;
                size++;
            }
        }

        private void readCondition(int depth) {
            boolean andOpen = false;
            boolean orOpen = false;
            boolean more = true;
            for (int i = 0; i < MOST_TAPE && more; i++) {
                readAtom(depth);
                if (andOpen) {
                    emit(JOIN_AND);
                }
                andOpen = isHere(WORD_AND);
                if (!andOpen && orOpen) {
                    emit(JOIN_OR);
                }
                if (!andOpen) {
                    orOpen = isHere(WORD_OR);
                }
                more = isRight() && (andOpen || orOpen);
                if (more) {
                    cutter.goOn();
                }
            }
        }

        private void readAtom(int depth) {
            if (isHere(WORD_NOT)) {
                accept(depth < MOST_DEEP);
                if (isRight()) {
                    readAtom(depth + 1);
                    emit(WORD_NOT);
                }
            } else if (isHere('(')) {
                accept(depth < MOST_DEEP);
                if (isRight()) {
                    readCondition(depth + 1);
                    accept(isHere(')'));
                }
            } else if (isHere(WORD_OWN) || isHere(WORD_WED)) {
                emit(cutter.kindHere());
                cutter.goOn();
            } else {
                readSum();
                int join = isHere('<') ? JOIN_LESS : JOIN_MORE;
                accept(isHere('<') || isHere('>'));
                readSum();
                emit(join);
            }
        }

        private void readSum() {
            boolean more = isRight();
            for (int i = 0; i < MOST_TAPE && more; i++) {
                int kind = cutter.kindHere();
                int part = kind >= WORD_WHO && kind <= WORD_FREE ? kind : cutter.numberHere();
                accept(part != NONE);
                emit(part);
                if (i > 0) {
                    emit(JOIN_PLUS);
                }
                more = isRight() && isHere('+');
                if (more) {
                    cutter.goOn();
                }
            }
        }
    }

    /** THE LAW as it was read: once made it stays the same, so that all STATES may share it. */
    private static final class Law {
        /** NONE: there was no text. */
        final int lines;
        private final int[] code;
        private final int[] stack = new int[STACK_SIZE];

        Law(int lines, int size) {
            this.lines = lines;
            this.code = new int[Math.max(0, size)];
        }

        void takeCode(int[] made) {
            for (int i = 0; i < code.length && i < made.length; i++) {
                code[i] = made[i];
            }
        }

        /** Whether a LINE of that word, hand or fetch, holds for a PERSON. */
        boolean allows(State state, int person, int lineWord) {
            int top = 0;
            for (int i = 0; i < code.length; i++) {
                int word = code[i];
                if (word == WORD_HAND || word == WORD_FETCH) {
                    if (word == lineWord && top > 0 && stack[0] != 0) {
                        return true;
                    }
                    top = 0;
                } else if (word == WORD_NOT) {
                    if (top >= 1) {
                        stack[top - 1] = 1 - stack[top - 1];
                    }
                } else if (word >= JOIN_PLUS) {
                    if (top >= 2) {
                        top--;
                        stack[top - 1] = joined(word, stack[top - 1], stack[top]);
                    }
                } else if (top < STACK_SIZE) {
                    stack[top] = word < FIRST_WORD ? word : state.valueOf(word, person);
                    top++;
                }
            }
            return false;
        }

        private static int joined(int join, int left, int right) {
            switch (join) {
                case JOIN_PLUS:
                    return left + right;
                case JOIN_LESS:
                    return left < right ? 1 : 0;
                case JOIN_MORE:
                    return left > right ? 1 : 0;
                case JOIN_AND:
                    return left & right;
                default:
                    return left | right;
            }
        }
    }

    /** THE LOG: a row behind another, the eldest written over when there are 60. */
    private static final class Log {
        /* Every STATE that is kept has a LOG of its own, so a row is but one number: 4 bits for all but HOUR. */
        private final long[] cells = new long[LOG_ROWS];
        int rows;
        private int nextRow;

        void copyFrom(Log other) {
            System.arraycopy(other.cells, 0, cells, 0, LOG_ROWS);
            rows = other.rows;
            nextRow = other.nextRow;
        }

        void addRow(int hour, int person, int hook, int face, int which) {
            cells[nextRow] = (long) hour << 16 | person << 12 | hook << 8 | face - NONE << 4 | which;
            nextRow = (nextRow + 1) % LOG_ROWS;
            rows = Math.min(rows + 1, LOG_ROWS);
        }

        int cell(int ago, int what) {
            if (ago < 0 || ago >= rows) {
                return NO_ROW;
            }
            long row = cells[Math.floorMod(nextRow - 1 - ago, LOG_ROWS)];
            switch (what) {
                case LOG_HOUR:
                    return (int) (row >> 16);
                case LOG_PERSON:
                    return (int) (row >> 12) & 15;
                case LOG_HOOK:
                    return (int) (row >> 8) & 15;
                case LOG_FACE:
                    return ((int) (row >> 4) & 15) + NONE;
                case LOG_WHICH:
                    return (int) row & 15;
                default:
                    return NO_ROW;
            }
        }
    }

    /** All that is gone back to by UNDONE and by THE IMAGE. */
    private static final class State {
        int people;
        int hooks = FIRST_HOOKS;
        int hour;
        int mix;
        int thief;
        int seed = 1;
        int texts;
        Law law;
        final Log log = new Log();
        final int[] faceMarks = new int[MOST_PEOPLE];
        final int[] maskMarks = new int[MOST_PEOPLE];
        final int[] wears = new int[MOST_PEOPLE];
        final int[] tickets = new int[MOST_PEOPLE];
        final int[] spouses = new int[MOST_PEOPLE];
        final int[] knows = new int[MOST_PEOPLE];
        /** Of one, then of the other one. */
        final int[] thinks = new int[MOST_PEOPLE * MOST_PEOPLE];
        /** Of one, then from the dearest on. */
        final int[] wishes = new int[MOST_PEOPLE * MOST_PEOPLE];
        final int[] hung = new int[MOST_HOOKS];

        State(Law law) {
            this.law = law;
            Arrays.fill(wears, NONE);
            Arrays.fill(tickets, NONE);
            Arrays.fill(spouses, NONE);
            Arrays.fill(hung, NONE);
        }

        void copyFrom(State other) {
            people = other.people;
            hooks = other.hooks;
            hour = other.hour;
            mix = other.mix;
            thief = other.thief;
            seed = other.seed;
            texts = other.texts;
            law = other.law;
            log.copyFrom(other.log);
            System.arraycopy(other.faceMarks, 0, faceMarks, 0, MOST_PEOPLE);
            System.arraycopy(other.maskMarks, 0, maskMarks, 0, MOST_PEOPLE);
            System.arraycopy(other.wears, 0, wears, 0, MOST_PEOPLE);
            System.arraycopy(other.tickets, 0, tickets, 0, MOST_PEOPLE);
            System.arraycopy(other.spouses, 0, spouses, 0, MOST_PEOPLE);
            System.arraycopy(other.knows, 0, knows, 0, MOST_PEOPLE);
            System.arraycopy(other.thinks, 0, thinks, 0, MOST_PEOPLE * MOST_PEOPLE);
            System.arraycopy(other.wishes, 0, wishes, 0, MOST_PEOPLE * MOST_PEOPLE);
            System.arraycopy(other.hung, 0, hung, 0, MOST_HOOKS);
        }

        // -- what THE DOOR tells --

        boolean hasPerson(int person) {
            return person >= 0 && person < people;
        }

        boolean canWed(int person) {
            return hasPerson(person) && spouses[person] == NONE;
        }

        void addPerson(int face, int mask) {
            int added = people;
            if (added >= MOST_PEOPLE) {
                return;
            }
            people++;
            faceMarks[added] = face;
            maskMarks[added] = mask;
            wears[added] = added;
            for (int other = 0; other < added; other++) {
                wishes[other * MOST_PEOPLE + added] = added;
            }
            setWishes(added, wishes, 0);
        }

        /** The first ones told come first, all others behind them by numbers. */
        void setWishes(int person, int[] told, int howMany) {
            int seen = 0;
            int at = person * MOST_PEOPLE;
            for (int i = 0; i < howMany && i < told.length; i++) {
                seen |= 1 << told[i];
                wishes[at] = told[i];
                at++;
            }
            for (int face = 0; face < people; face++) {
                if (!has(seen, face)) {
                    wishes[at] = face;
                    at++;
                }
            }
        }

        /** A HOOK whose TICKET is out is taken, too: without it the TICKET would be the number of no HOOK. */
        int lastTakenHook() {
            int last = NONE;
            for (int hook = 0; hook < hooks; hook++) {
                if (hung[hook] != NONE || ticketIsOut(hook)) {
                    last = hook;
                }
            }
            return last;
        }

        // -- ACTS --

        int handIn(int person, int hook) {
            int face = wears[person];
            hung[hook] = face;
            wears[person] = NONE;
            tickets[person] = hook;
            log.addRow(hour, person, hook, face, HANDED);
            return face;
        }

        int fetchBy(int person) {
            int hook = tickets[person];
            int face = faceAt(hook);
            if (face != NONE) {
                hung[hook] = NONE;
            }
            wears[person] = face;
            tickets[person] = NONE;
            log.addRow(hour, person, hook, face, FETCHED);
            return face;
        }

        int stealBy(int person, int hook) {
            int face = hung[hook];
            hung[hook] = NONE;
            wears[person] = face;
            log.addRow(hour, person, hook, face, STOLEN);
            return face;
        }

        void changeTickets(int one, int other) {
            int given = tickets[one];
            tickets[one] = tickets[other];
            tickets[other] = given;
            int lesser = Math.min(one, other);
            int greater = Math.max(one, other);
            log.addRow(hour, lesser, tickets[lesser], NONE, CHANGED);
            log.addRow(hour, greater, tickets[greater], NONE, CHANGED);
        }

        int tellAll(int one, int other) {
            int all = knows[one] | knows[other] | 1 << one | 1 << other;
            knows[one] = all & ~(1 << one);
            knows[other] = all & ~(1 << other);
            thinks[one * MOST_PEOPLE + other] = knows[other];
            thinks[other * MOST_PEOPLE + one] = knows[one];
            return all;
        }

        void meetAllWhoKnow() {
            for (int one = 0; one < people; one++) {
                for (int other = one + 1; other < people; other++) {
                    if (has(knows[one], other) && has(knows[other], one)) {
                        tellAll(one, other);
                    }
                }
            }
        }

        // -- AN HOUR --

        /** How often it was HANDED in or FETCHED. */
        int passHour() {
            int moves = 0;
            for (int person = 0; person < people; person++) {
                if (takesTurn(person)) {
                    moves++;
                }
            }
            if (draw() % HUNDRED < mix) {
                mixByDraws();
            }
            if (draw() % HUNDRED < thief) {
                robByDraw();
            }
            hour++;
            return moves;
        }

        private boolean takesTurn(int person) {
            boolean bare = wears[person] == NONE;
            boolean ticketed = tickets[person] != NONE;
            if (!bare && !ticketed) {
                int free = leastFreeHook();
                if (free != NONE && law.allows(this, person, WORD_HAND)) {
                    handIn(person, free);
                    return true;
                }
            } else if (bare && ticketed && law.allows(this, person, WORD_FETCH)) {
                fetchBy(person);
                return true;
            }
            return false;
        }

        private int draw() {
            seed = 1103515245 * seed + 12345;
            return seed >>> 16 & 0x7FFF;
        }

        private void mixByDraws() {
            int holders = ticketHolders();
            int howMany = Integer.bitCount(holders);
            if (howMany < 2) {
                return;
            }
            int one = nthOf(holders, draw() % howMany);
            int others = holders & ~(1 << one);
            changeTickets(one, nthOf(others, draw() % (howMany - 1)));
        }

        private void robByDraw() {
            int howMany = hungCount();
            if (howMany == 0) {
                return;
            }
            int left = draw() % howMany;
            for (int hook = 0; hook < hooks; hook++) {
                if (hung[hook] != NONE) {
                    if (left == 0) {
                        faceMarks[hung[hook]] &= faceMarks[hung[hook]] - 1;
                    }
                    left--;
                }
            }
        }

        private static int nthOf(int bits, int n) {
            int rest = bits;
            for (int i = 0; i < n; i++) {
                rest &= rest - 1;
            }
            return Integer.numberOfTrailingZeros(rest);
        }

        private int leastFreeHook() {
            for (int hook = 0; hook < hooks; hook++) {
                if (hung[hook] == NONE) {
                    return hook;
                }
            }
            return NONE;
        }

        int valueOf(int word, int person) {
            int face = wears[person] == NONE ? faceAt(tickets[person]) : wears[person];
            switch (word) {
                case WORD_WHO:
                    return person;
                case WORD_HOUR:
                    return hour;
                case WORD_HOOK:
                    return tickets[person] == NONE ? NO_TICKET_HOOK : tickets[person];
                case WORD_MARKS:
                    return face == NONE ? 0 : Integer.bitCount(faceMarks[face]);
                case WORD_HUNG:
                    return hungCount();
                case WORD_FREE:
                    return hooks - hungCount();
                case WORD_OWN:
                    return face == person ? 1 : 0;
                case WORD_WED:
                    return spouses[person] == NONE ? 0 : 1;
                default:
                    return 0;
            }
        }

        // -- what is asked --

        /** NONE for a TICKET that is none, too. */
        int faceAt(int hook) {
            return hook >= 0 && hook < MOST_HOOKS ? hung[hook] : NONE;
        }

        int wearerOf(int face) {
            for (int person = 0; person < people; person++) {
                if (wears[person] == face) {
                    return person;
                }
            }
            return NONE;
        }

        int hookOf(int face) {
            for (int hook = 0; hook < hooks; hook++) {
                if (hung[hook] == face) {
                    return hook;
                }
            }
            return NONE;
        }

        boolean isLost(int face) {
            return wearerOf(face) == NONE && hookOf(face) == NONE;
        }

        boolean ticketIsOut(int hook) {
            for (int person = 0; person < people; person++) {
                if (tickets[person] == hook) {
                    return true;
                }
            }
            return false;
        }

        int wrongOnes() {
            int bits = 0;
            for (int person = 0; person < people; person++) {
                if (wears[person] != NONE && wears[person] != person) {
                    bits |= 1 << person;
                }
            }
            return bits;
        }

        int ringOf(int person) {
            int bits = 0;
            int at = person;
            for (int i = 0; i < people && at != NONE; i++) {
                bits |= 1 << at;
                at = wearerOf(at);
            }
            return bits;
        }

        int sameAs(int[] marks, int one) {
            int bits = 0;
            for (int other = 0; other < people; other++) {
                if (other != one && marks[other] == marks[one]) {
                    bits |= 1 << other;
                }
            }
            return bits;
        }

        int hungCount() {
            int howMany = 0;
            for (int hook = 0; hook < hooks; hook++) {
                if (hung[hook] != NONE) {
                    howMany++;
                }
            }
            return howMany;
        }

        int hangingFaces() {
            int bits = 0;
            for (int hook = 0; hook < hooks; hook++) {
                if (hung[hook] != NONE) {
                    bits |= 1 << hung[hook];
                }
            }
            return bits;
        }

        int ticketHolders() {
            int bits = 0;
            for (int person = 0; person < people; person++) {
                if (tickets[person] != NONE) {
                    bits |= 1 << person;
                }
            }
            return bits;
        }

        int allMarksCount() {
            int howMany = 0;
            for (int face = 0; face < people; face++) {
                howMany += Integer.bitCount(faceMarks[face]);
            }
            return howMany;
        }

        int knownToAny(int set) {
            int bits = 0;
            for (int person = 0; person < people; person++) {
                if (has(set, person)) {
                    bits |= knows[person];
                }
            }
            return bits;
        }
    }

    /** The STATES ahead of the latest ACTS, the eldest forgotten when there are 12. */
    private static final class Past {
        private final State[] states = new State[MOST_UNDONE];
        private int first;
        int size;

        Past(Law noLaw) {
            for (int i = 0; i < MOST_UNDONE; i++) {
                states[i] = new State(noLaw);
            }
        }

        void forget() {
            size = 0;
        }

        void keep(State now) {
            if (size == MOST_UNDONE) {
                first = (first + 1) % MOST_UNDONE;
                size--;
            }
            states[(first + size) % MOST_UNDONE].copyFrom(now);
            size++;
        }

        boolean takeBack(State now) {
            if (size == 0) {
                return false;
            }
            size--;
            now.copyFrom(states[(first + size) % MOST_UNDONE]);
            return true;
        }
    }

    /** Exchanges of worn FACES by WISHES. */
    private static final class Market {
        /** By PERSON, the FACE that one gets in the CORE; NONE if one brought none. */
        final int[] gets = new int[MOST_PEOPLE];
        private final int[] pointsTo = new int[MOST_PEOPLE];

        void trade(State state) {
            Arrays.fill(gets, NONE);
            int left = 0;
            for (int person = 0; person < state.people; person++) {
                if (state.wears[person] != NONE) {
                    left |= 1 << person;
                }
            }
            for (int round = 0; round < MOST_PEOPLE && left != 0; round++) {
                point(state, left);
                left &= ~giveRing(state, left);
            }
        }

        private void point(State state, int left) {
            for (int person = 0; person < state.people; person++) {
                if (has(left, person)) {
                    pointsTo[person] = bringerOfDearest(state, person, left);
                }
            }
        }

        private static int bringerOfDearest(State state, int person, int left) {
            for (int k = 0; k < state.people; k++) {
                int bringer = state.wearerOf(state.wishes[person * MOST_PEOPLE + k]);
                if (bringer != NONE && has(left, bringer)) {
                    return bringer;
                }
            }
            return person;
        }

        /** Who is in one ring gets what they point to; other rings stay as they are till their turn. */
        private int giveRing(State state, int left) {
            int at = Integer.numberOfTrailingZeros(left);
            // Whoever stands here after so many steps is in a ring, not on the way to one.
            for (int i = 0; i < MOST_PEOPLE; i++) {
                at = pointsTo[at];
            }
            int ring = 0;
            for (int i = 0; i < MOST_PEOPLE && !has(ring, at); i++) {
                ring |= 1 << at;
                gets[at] = state.wears[pointsTo[at]];
                at = pointsTo[at];
            }
            return ring;
        }

        /** Who wants the FACE of none who is left is in no ring of exchanges, and leaves; only such rings stay. */
        boolean hasDearerRing(State state, int set) {
            int left = set;
            for (int round = 0; round < MOST_PEOPLE; round++) {
                int staying = 0;
                for (int person = 0; person < state.people; person++) {
                    if (has(left, person) && wantsAny(state, person, left)) {
                        staying |= 1 << person;
                    }
                }
                left = staying;
            }
            return left != 0;
        }

        private static boolean wantsAny(State state, int person, int set) {
            for (int k = 0; k < state.people; k++) {
                int face = state.wishes[person * MOST_PEOPLE + k];
                if (face == state.wears[person]) {
                    return false;
                }
                int wearer = state.wearerOf(face);
                if (wearer != NONE && has(set, wearer)) {
                    return true;
                }
            }
            return false;
        }
    }

    /** What is SAID of whose FACE is whose, and the OWNERS by which it is so. */
    private static final class Said {
        private final int[] persons = new int[MOST_SAID];
        private final int[] faces = new int[MOST_SAID];
        private final boolean[] are = new boolean[MOST_SAID];
        private final int[] allowed = new int[MOST_PEOPLE];
        private final int[] ownerOf = new int[MOST_PEOPLE];
        private final int[] orders = new int[1 << MOST_PEOPLE];
        private int people;
        private int size;
        private int tried;

        /** Whether the TAPE tells just what can be SAID. */
        boolean readTape(Tape tape, int howManyPeople) {
            people = howManyPeople;
            size = 0;
            if (tape.length % BYTES_OF_SAID != 0 || tape.length > MOST_SAID * BYTES_OF_SAID) {
                return false;
            }
            for (int at = 0; at < tape.length && size < MOST_SAID; at += BYTES_OF_SAID) {
                int is = tape.byteAt(at + 2);
                if (tape.byteAt(at) >= people || tape.byteAt(at + 1) >= people || is > 1) {
                    return false;
                }
                persons[size] = tape.byteAt(at);
                faces[size] = tape.byteAt(at + 1);
                are[size] = is == 1;
                size++;
            }
            return true;
        }

        private void allowBy(int set) {
            Arrays.fill(allowed, (1 << people) - 1);
            for (int i = 0; i < size; i++) {
                if (has(set, i)) {
                    int face = 1 << faces[i];
                    allowed[persons[i]] &= are[i] ? face : ~face;
                }
            }
        }

        int ownersOfAll() {
            allowBy((1 << size) - 1);
            return countOwners();
        }

        private int ownersWith(int person, int face) {
            allowBy((1 << size) - 1);
            allowed[person] &= 1 << face;
            return countOwners();
        }

        /** By sets of FACES given to the first PEOPLE: in how many orders. */
        private int countOwners() {
            int last = (1 << people) - 1;
            Arrays.fill(orders, 0);
            orders[0] = 1;
            for (int given = 0; given < last; given++) {
                int person = Integer.bitCount(given);
                for (int face = 0; face < people && orders[given] != 0; face++) {
                    if (has(allowed[person] & ~given, face)) {
                        orders[given | 1 << face] += orders[given];
                    }
                }
            }
            return orders[last];
        }

        int sureFace(int person) {
            int all = ownersOfAll();
            for (int face = 0; face < people && all > 0; face++) {
                if (ownersWith(person, face) == all) {
                    return face;
                }
            }
            return NONE;
        }

        int bestQuestion(int person) {
            int all = ownersOfAll();
            int best = NONE;
            int leastPart = all;
            for (int face = 0; face < people && all >= 2; face++) {
                int with = ownersWith(person, face);
                int part = Math.max(with, all - with);
                if (best == NONE || part < leastPart) {
                    best = face;
                    leastPart = part;
                }
            }
            return best;
        }

        int fewestApart() {
            int all = (1 << size) - 1;
            if (canBe(all)) {
                return 0;
            }
            int best = NONE;
            for (int set = 1; set <= all; set++) {
                if (isFewer(set, best) && !canBe(set)) {
                    best = set;
                }
            }
            return best;
        }

        private boolean canBe(int set) {
            allowBy(set);
            Arrays.fill(ownerOf, NONE);
            for (int person = 0; person < people; person++) {
                tried = 0;
                if (!findsFace(person, 0)) {
                    return false;
                }
            }
            return true;
        }

        /** Gives a PERSON a FACE, if need be by giving its owner another one. */
        private boolean findsFace(int person, int depth) {
            for (int face = 0; face < people && depth < MOST_PEOPLE; face++) {
                if (has(allowed[person] & ~tried, face)) {
                    tried |= 1 << face;
                    if (ownerOf[face] == NONE || findsFace(ownerOf[face], depth + 1)) {
                        ownerOf[face] = person;
                        return true;
                    }
                }
            }
            return false;
        }
    }
}
