import java.util.ArrayDeque;
import java.util.ArrayList;
import java.util.Arrays;
import java.util.Collections;
import java.util.Comparator;
import java.util.Deque;
import java.util.List;
import java.util.NoSuchElementException;
import java.util.Set;
import java.util.TreeSet;
import java.util.function.IntPredicate;

/**
 * The whole document a second time, plainly and in other ways than the class:
 * lists and sets in place of bits, trees in place of code, closures, formulas and tables in place of searches.
 */
public final class Twin {
    private static final int NONE = -1;

    private final List<Integer> tape = new ArrayList<>();
    private final Deque<Carnival> past = new ArrayDeque<>();
    private Carnival now = new Carnival();
    private Carnival kept;
    private int fault = NONE;

    // ---- the TAPE and the texts ----

    public int feed(int a, int b, int c, int d, int e) {
        if (tape.size() > 380) {
            return NONE;
        }
        for (int number : new int[] {a, b, c, d, e}) {
            for (int i = 3; i >= 0; i--) {
                tape.add(number >> 8 * i & 255);
            }
        }
        return tape.size();
    }

    public boolean end(int n) {
        if (n < 0 || n > tape.size()) {
            return false;
        }
        tape.subList(n, tape.size()).clear();
        return true;
    }

    private List<Integer> usedUp() {
        List<Integer> bytes = new ArrayList<>(tape);
        tape.clear();
        return bytes;
    }

    public int door() {
        Carnival draft = now.copy();
        fault = new TwinText(usedUp()).readDoor(draft);
        if (fault != NONE) {
            throw new IllegalArgumentException();
        }
        if (now.texts == 12) {
            throw new UnsupportedOperationException();
        }
        draft.texts++;
        now = draft;
        past.clear();
        return now.texts;
    }

    public int law() {
        List<TwinText.Line> lines = new ArrayList<>();
        fault = new TwinText(usedUp()).readLaw(lines);
        if (fault != NONE) {
            throw new IllegalArgumentException();
        }
        now.law = lines;
        past.clear();
        return lines.size();
    }

    public int fault() {
        return fault;
    }

    // ---- what there is ----

    private static void index(int number, int below) {
        if (number < 0 || number >= below) {
            throw new IndexOutOfBoundsException();
        }
    }

    private Person somebody(int person) {
        index(person, now.people.size());
        return now.people.get(person);
    }

    private static void argument(boolean right) {
        if (!right) {
            throw new IllegalArgumentException();
        }
    }

    private static void possible(boolean can) {
        if (!can) {
            throw new IllegalStateException();
        }
    }

    private void two(int person, int other) {
        somebody(person);
        somebody(other);
        argument(person != other);
    }

    private static int bits(Set<Integer> set) {
        int all = 0;
        for (int one : set) {
            all += 1 << one;
        }
        return all;
    }

    private int whoever(IntPredicate holds) {
        Set<Integer> found = new TreeSet<>();
        for (int one = 0; one < now.people.size(); one++) {
            if (holds.test(one)) {
                found.add(one);
            }
        }
        return bits(found);
    }

    public int person(int person, int what) {
        Person one = somebody(person);
        if (what < 0 || what > 5) {
            throw new NoSuchElementException();
        }
        Set<Integer> ring = new TreeSet<>();
        for (int at = person; at != NONE && ring.add(at);) {
            at = now.wearer(at);
        }
        return new int[] {bits(one.mask), one.wears, one.ticket, one.spouse, bits(one.knows), bits(ring)}[what];
    }

    public int face(int face, int what) {
        Set<Integer> marks = somebody(face).face;
        if (what < 0 || what > 3) {
            throw new NoSuchElementException();
        }
        int alike = whoever(other -> other != face && now.people.get(other).face.equals(marks));
        return new int[] {bits(marks), now.wearer(face), now.hooks.indexOf(face), alike}[what];
    }

    public int hook(int hook) {
        index(hook, now.hooks.size());
        return now.hooks.get(hook);
    }

    public int wish(int person, int k) {
        List<Integer> wishes = now.wishes(somebody(person));
        return k < 0 || k >= wishes.size() ? NONE : wishes.get(k);
    }

    public int thinks(int person, int other) {
        two(person, other);
        return bits(now.people.get(person).thinks.get(other));
    }

    // ---- ACTS ----

    private void remember() {
        past.addLast(now.copy());
        if (past.size() > 12) {
            past.removeFirst();
        }
    }

    public int hand(int person, int hook) {
        Person one = somebody(person);
        index(hook, now.hooks.size());
        possible(one.wears != NONE && one.ticket == NONE && now.hooks.get(hook) == NONE);
        remember();
        now.hand(person, hook);
        return now.hooks.get(hook);
    }

    public int fetch(int person) {
        Person one = somebody(person);
        possible(one.ticket != NONE && one.wears == NONE);
        remember();
        now.fetch(person);
        return one.wears;
    }

    public int mix(int person, int other) {
        two(person, other);
        possible(now.people.get(person).ticket != NONE && now.people.get(other).ticket != NONE);
        remember();
        now.mixTickets(person, other);
        return now.people.get(person).ticket;
    }

    public int steal(int person, int hook) {
        Person one = somebody(person);
        index(hook, now.hooks.size());
        possible(one.wears == NONE && now.hooks.get(hook) != NONE);
        remember();
        one.wears = now.hooks.set(hook, NONE);
        now.note(person, hook, one.wears, 2);
        return one.wears;
    }

    public int change(int person, int other) {
        two(person, other);
        Person one = now.people.get(person);
        Person two = now.people.get(other);
        possible(one.wears != NONE && two.wears != NONE);
        remember();
        int first = one.wears;
        one.wears = two.wears;
        two.wears = first;
        return one.wears;
    }

    public int shave(int face, int mark) {
        Set<Integer> marks = somebody(face).face;
        index(mark, 8);
        possible(marks.contains(mark));
        remember();
        marks.remove(mark);
        return marks.size();
    }

    public int graft(int from, int to, int mark) {
        Set<Integer> giving = somebody(from).face;
        Set<Integer> getting = somebody(to).face;
        index(mark, 8);
        argument(from != to);
        possible(giving.contains(mark) && !getting.contains(mark));
        remember();
        giving.remove(mark);
        getting.add(mark);
        return getting.size();
    }

    public int meet(int person, int other) {
        two(person, other);
        remember();
        now.meeting(person, other);
        Set<Integer> all = new TreeSet<>(now.people.get(person).knows);
        all.addAll(now.people.get(other).knows);
        return bits(all);
    }

    public int hours(int n) {
        argument(n >= 1 && n <= 50);
        remember();
        int often = 0;
        for (int i = 0; i < n; i++) {
            often += now.anHour();
        }
        return often;
    }

    // ---- who has whose ----

    public int wrong() {
        return whoever(one -> now.people.get(one).wears != NONE && now.people.get(one).wears != one);
    }

    public int lost() {
        return whoever(face -> now.wearer(face) == NONE && !now.hooks.contains(face));
    }

    public int unclaimed() {
        return whoever(face -> now.hooks.contains(face) && now.holder(now.hooks.indexOf(face)) == NONE);
    }

    /** Places between which FACES must go hang together; such a heap needs a swap fewer than it has places. */
    public int swaps() {
        int places = now.people.size() + now.hooks.size();
        int[] heap = new int[places];
        for (int i = 0; i < places; i++) {
            heap[i] = i;
        }
        int joined = 0;
        for (int place = 0; place < places; place++) {
            int people = now.people.size();
            int face = place < people ? now.people.get(place).wears : now.hooks.get(place - people);
            if (face != NONE && heap[face] != heap[place]) {
                joined++;
                int old = heap[face];
                for (int i = 0; i < places; i++) {
                    heap[i] = heap[i] == old ? heap[place] : heap[i];
                }
            }
        }
        return joined;
    }

    public int saved() {
        return whoever(one -> {
            int spouse = now.people.get(one).spouse;
            return spouse != NONE && now.wearer(one) == spouse && now.wearer(spouse) == one;
        });
    }

    // ---- MARKS ----

    /** All sets of so many things, the fewest first, of as many the least first. */
    private static List<Integer> setsOf(int things) {
        List<Integer> all = new ArrayList<>();
        for (int set = 0; set < 1 << things; set++) {
            all.add(set);
        }
        all.sort(Comparator.comparing(Integer::bitCount));
        return all;
    }

    public int marks() {
        for (int set : setsOf(8)) {
            Set<Integer> seen = new TreeSet<>();
            for (Person one : now.people) {
                seen.add(bits(one.face) & set);
            }
            if (seen.size() == now.people.size()) {
                return set;
            }
        }
        return NONE;
    }

    public int unknown() {
        return whoever(one -> {
            int same = 0;
            for (Person other : now.people) {
                same += other.mask.equals(now.people.get(one).mask) ? 1 : 0;
            }
            return same > 1;
        });
    }

    public int passes(int marks, int n) {
        argument(marks >= 0 && marks < 256 && n >= 0 && n <= 8);
        return whoever(one -> {
            int otherwise = 0;
            for (int mark = 0; mark < 8; mark++) {
                otherwise += now.people.get(one).face.contains(mark) == ((marks >> mark & 1) == 1) ? 0 : 1;
            }
            return otherwise <= n;
        });
    }

    public int forged(int marks) {
        argument(marks >= 0 && marks < 256);
        for (int set : setsOf(now.people.size())) {
            int have = 0;
            boolean hang = true;
            for (int face = 0; face < now.people.size(); face++) {
                if ((set >> face & 1) == 1) {
                    have |= bits(now.people.get(face).face);
                    hang &= now.hooks.contains(face);
                }
            }
            if (hang && (marks & have) == marks) {
                return set;
            }
        }
        return NONE;
    }

    // ---- WISHES ----

    private int[] coreOfAll() {
        int[] gets = new int[now.people.size()];
        Arrays.fill(gets, NONE);
        Set<Integer> left = new TreeSet<>();
        for (int one = 0; one < gets.length; one++) {
            if (now.people.get(one).wears != NONE) {
                left.add(one);
            }
        }
        while (!left.isEmpty()) {
            Set<Integer> leaving = new TreeSet<>();
            for (int one : left) {
                int at = one;
                for (int i = 0; i < gets.length; i++) {
                    at = now.wearer(dearest(at, left));
                    if (at == one) {
                        leaving.add(one);
                        gets[one] = dearest(one, left);
                    }
                }
            }
            left.removeAll(leaving);
        }
        return gets;
    }

    private int dearest(int one, Set<Integer> left) {
        for (int face : now.wishes(now.people.get(one))) {
            if (left.contains(now.wearer(face))) {
                return face;
            }
        }
        throw new AssertionError("one brought a FACE");
    }

    public int core(int person) {
        somebody(person);
        return coreOfAll()[person];
    }

    public int gains() {
        int[] gets = coreOfAll();
        return Integer.bitCount(whoever(one -> gets[one] != now.people.get(one).wears));
    }

    /** WISHES have no two as dear, so an exchange is a ring in which each one wants the next one's more. */
    public boolean block(int people) {
        int many = now.people.size();
        boolean[][] wants = new boolean[many][many];
        for (int one = 0; one < many; one++) {
            possible((people >> one & 1) == 0 || now.people.get(one).wears != NONE);
        }
        for (int one = 0; one < many; one++) {
            List<Integer> wishes = now.wishes(now.people.get(one));
            for (int other = 0; other < many; other++) {
                wants[one][other] = (people >> one & 1) == 1 && (people >> other & 1) == 1
                        && wishes.indexOf(now.people.get(other).wears) < wishes.indexOf(now.people.get(one).wears);
            }
        }
        boolean ring = false;
        for (int k = 0; k < many; k++) {
            for (int i = 0; i < many; i++) {
                for (int j = 0; j < many; j++) {
                    wants[i][j] |= wants[i][k] && wants[k][j];
                }
            }
        }
        for (int one = 0; one < many; one++) {
            ring |= wants[one][one];
        }
        return ring;
    }

    // ---- SAID ----

    private boolean isSaid(List<Integer> bytes) {
        boolean right = bytes.size() % 3 == 0 && bytes.size() <= 36;
        for (int i = 0; i < bytes.size(); i++) {
            right &= bytes.get(i) < (i % 3 == 2 ? 2 : now.people.size());
        }
        return right;
    }

    /** By the formula of Ryser: over all sets of FACES, the product of how many of the set each PERSON may have. */
    private long owners(List<Integer> said, int which, int person, int face) {
        int many = now.people.size();
        int[] may = new int[many];
        Arrays.fill(may, (1 << many) - 1);
        for (int i = 0; i < said.size() / 3; i++) {
            if ((which >> i & 1) == 1) {
                int bit = 1 << said.get(3 * i + 1);
                may[said.get(3 * i)] &= said.get(3 * i + 2) == 1 ? bit : ~bit;
            }
        }
        if (person != NONE) {
            may[person] &= 1 << face;
        }
        long all = 0;
        for (int set = 0; set < 1 << many; set++) {
            long product = (many - Integer.bitCount(set)) % 2 == 0 ? 1 : -1;
            for (int one = 0; one < many && product != 0; one++) {
                product *= Integer.bitCount(may[one] & set);
            }
            all += product;
        }
        return all;
    }

    public int fits(int person) {
        List<Integer> said = usedUp();
        if (person != NONE) {
            somebody(person);
        }
        argument(isSaid(said));
        long all = owners(said, -1, NONE, NONE);
        if (person == NONE) {
            return (int) all;
        }
        for (int face = 0; face < now.people.size() && all > 0; face++) {
            if (owners(said, -1, person, face) == all) {
                return face;
            }
        }
        return NONE;
    }

    public int ask(int person) {
        List<Integer> said = usedUp();
        somebody(person);
        argument(isSaid(said));
        long all = owners(said, -1, NONE, NONE);
        long least = Long.MAX_VALUE;
        int best = NONE;
        for (int face = 0; face < now.people.size() && all > 1; face++) {
            long is = owners(said, -1, person, face);
            if (Math.max(is, all - is) < least) {
                least = Math.max(is, all - is);
                best = face;
            }
        }
        return best;
    }

    public int clash() {
        List<Integer> said = usedUp();
        argument(isSaid(said));
        if (owners(said, -1, NONE, NONE) > 0) {
            return 0;
        }
        for (int set : setsOf(said.size() / 3)) {
            if (owners(said, set, NONE, NONE) == 0) {
                return set;
            }
        }
        throw new AssertionError("all SAID together cannot be so");
    }

    // ---- TICKETS and HOOKS ----

    /** The least minutes of all who are left, together, from a HOOK on; as a table, so that all orders are tried. */
    private int waiting(int left, int at, int[][] known) {
        if (left == 0) {
            return 0;
        }
        if (known[left][at] == 0) {
            int least = Integer.MAX_VALUE;
            for (int one = 0; one < now.people.size(); one++) {
                if ((left >> one & 1) == 1) {
                    least = Math.min(least, waitingWith(one, left, at, known));
                }
            }
            known[left][at] = least;
        }
        return known[left][at];
    }

    private int waitingWith(int one, int left, int at, int[][] known) {
        int hook = now.people.get(one).ticket;
        return (Math.abs(hook - at) + 1) * Integer.bitCount(left) + waiting(left & ~(1 << one), hook, known);
    }

    public int queue(int k) {
        int[][] known = new int[1 << now.people.size()][12];
        int left = count(8);
        int at = 0;
        if (k == NONE) {
            return waiting(left, 0, known);
        }
        for (int served = 0; left != 0; served++) {
            int next = 0;
            while ((left >> next & 1) == 0 || waitingWith(next, left, at, known) != waiting(left, at, known)) {
                next++;
            }
            if (served == k) {
                return next;
            }
            left &= ~(1 << next);
            at = now.people.get(next).ticket;
        }
        return NONE;
    }

    private static long product(int from, int to) {
        return from > to ? 1 : from * product(from + 1, to);
    }

    /** Of all ways those in which some M have theirs, less those in which some M and one more have, and so on. */
    public int ways(int m) {
        argument(m >= 0 && m <= 10);
        int many = Integer.bitCount(count(8));
        long ways = 0;
        for (int k = m; k <= many; k++) {
            long of = product(1, many) / product(1, m) / product(1, k - m);
            ways += (k - m) % 2 == 0 ? of : -of;
        }
        return (int) ways;
    }

    /** Each ROW as a list of HOOKS. */
    private List<List<Integer>> rows() {
        List<List<Integer>> rows = new ArrayList<>();
        for (int hook = 0; hook < now.hooks.size(); hook++) {
            if (now.hooks.get(hook) == NONE) {
                continue;
            }
            if (hook == 0 || now.hooks.get(hook - 1) == NONE) {
                rows.add(new ArrayList<>());
            }
            rows.get(rows.size() - 1).add(hook);
        }
        return rows;
    }

    public int talk(int hook) {
        index(hook, now.hooks.size());
        Set<Integer> faces = new TreeSet<>();
        for (List<Integer> row : rows()) {
            for (int other : row) {
                if (row.contains(hook)) {
                    faces.add(now.hooks.get(other));
                }
            }
        }
        return bits(faces);
    }

    public int row(boolean begin) {
        List<Integer> longest = new ArrayList<>();
        for (List<Integer> row : rows()) {
            longest = row.size() > longest.size() ? row : longest;
        }
        return begin ? longest.isEmpty() ? NONE : longest.get(0) : longest.size();
    }

    // ---- who KNOWS whom ----

    public int chain(int person, int other) {
        two(person, other);
        int[] steps = new int[now.people.size()];
        Arrays.fill(steps, NONE);
        Deque<Integer> next = new ArrayDeque<>(List.of(person));
        steps[person] = 0;
        while (!next.isEmpty()) {
            int at = next.remove();
            for (int known : now.people.get(at).knows) {
                if (steps[known] == NONE) {
                    steps[known] = steps[at] + 1;
                    next.add(known);
                }
            }
        }
        return steps[other];
    }

    public int hears(int person, int n) {
        somebody(person);
        argument(n >= 0 && n <= 20);
        Carnival then = now.copy();
        for (int round = 0; round < n; round++) {
            for (int one = 0; one < then.people.size(); one++) {
                for (int other = one + 1; other < then.people.size(); other++) {
                    if (then.people.get(one).knows.contains(other) && then.people.get(other).knows.contains(one)) {
                        then.meeting(one, other);
                    }
                }
            }
        }
        return bits(then.people.get(person).knows);
    }

    // ---- TRIALS and THE LOG ----

    private int wrongThen(int hours, int seed) {
        Carnival here = now;
        now = here.copy();
        now.seed = seed;
        for (int i = 0; i < hours; i++) {
            now.anHour();
        }
        int many = Integer.bitCount(wrong());
        now = here;
        return many;
    }

    public int trial(int n) {
        argument(n >= 0 && n <= 30);
        return wrongThen(n, now.seed);
    }

    public int span(int n, boolean most) {
        argument(n >= 0 && n <= 30);
        Set<Integer> all = new TreeSet<>();
        for (int seed = 1; seed <= 6; seed++) {
            all.add(wrongThen(n, seed));
        }
        List<Integer> sorted = new ArrayList<>(all);
        return sorted.get(most ? sorted.size() - 1 : 0);
    }

    public int led(int face, boolean who) {
        somebody(face);
        List<Integer> by = new ArrayList<>();
        for (int[] row : now.log) {
            if (row[3] == face && (row[4] == 1 || row[4] == 2)) {
                by.add(row[1]);
            }
        }
        return who ? by.isEmpty() ? NONE : by.get(by.size() - 1) : by.size();
    }

    public int log(int ago, int what) {
        if (what < 0 || what > 4) {
            throw new NoSuchElementException();
        }
        return ago < 0 || ago >= now.log.size() ? -99 : now.log.get(now.log.size() - 1 - ago)[what];
    }

    public int seed(int n) {
        int was = now.seed;
        now.seed = n;
        return was;
    }

    // ---- UNDONE, and THE IMAGE ----

    public boolean undo() {
        if (past.isEmpty()) {
            return false;
        }
        now = past.removeLast();
        return true;
    }

    public void image() {
        kept = now.copy();
    }

    public boolean back() {
        if (kept == null) {
            return false;
        }
        now = kept.copy();
        past.clear();
        return true;
    }

    public int count(int what) {
        int hang = 0;
        for (int face : now.hooks) {
            hang += face == NONE ? 0 : 1;
        }
        int marks = 0;
        for (Person one : now.people) {
            marks += one.face.size();
        }
        int[] all = {now.people.size(), now.hooks.size(), hang, now.texts, now.law == null ? NONE : now.law.size(),
            now.hour, now.mix, now.thief, whoever(one -> now.people.get(one).ticket != NONE), marks, now.log.size(),
            past.size()};
        return what < 0 || what >= all.length ? NONE : all[what];
    }

    /** One of the PEOPLE; sets are sets. */
    static final class Person {
        Set<Integer> face = new TreeSet<>();
        Set<Integer> mask = new TreeSet<>();
        int wears;
        int ticket = NONE;
        int spouse = NONE;
        Set<Integer> knows = new TreeSet<>();
        List<Set<Integer>> thinks = new ArrayList<>();
        /** The FACES that were told; all others are behind them by numbers. */
        List<Integer> told = new ArrayList<>();

        Person(int number) {
            wears = number;
            for (int other = 0; other < 10; other++) {
                thinks.add(new TreeSet<>());
            }
        }

        Person copy() {
            Person other = new Person(wears);
            other.face = new TreeSet<>(face);
            other.mask = new TreeSet<>(mask);
            other.ticket = ticket;
            other.spouse = spouse;
            other.knows = new TreeSet<>(knows);
            for (int i = 0; i < 10; i++) {
                other.thinks.set(i, new TreeSet<>(thinks.get(i)));
            }
            other.told = new ArrayList<>(told);
            return other;
        }
    }

    /** All that is gone back to. */
    static final class Carnival {
        List<Person> people = new ArrayList<>();
        /** The FACE on each. */
        List<Integer> hooks = new ArrayList<>(List.of(NONE, NONE, NONE, NONE, NONE, NONE));
        int hour;
        int mix;
        int thief;
        int seed = 1;
        int texts;
        List<TwinText.Line> law;
        List<int[]> log = new ArrayList<>();

        Carnival copy() {
            Carnival other = new Carnival();
            for (Person one : people) {
                other.people.add(one.copy());
            }
            other.hooks = new ArrayList<>(hooks);
            other.hour = hour;
            other.mix = mix;
            other.thief = thief;
            other.seed = seed;
            other.texts = texts;
            other.law = law;
            other.log = new ArrayList<>(log);
            return other;
        }

        List<Integer> wishes(Person one) {
            List<Integer> all = new ArrayList<>(one.told);
            for (int face = 0; face < people.size(); face++) {
                if (!one.told.contains(face)) {
                    all.add(face);
                }
            }
            return all;
        }

        int wearer(int face) {
            for (int one = 0; one < people.size(); one++) {
                if (people.get(one).wears == face) {
                    return one;
                }
            }
            return NONE;
        }

        int holder(int hook) {
            for (int one = 0; one < people.size(); one++) {
                if (people.get(one).ticket == hook) {
                    return one;
                }
            }
            return NONE;
        }

        void note(int person, int hook, int face, int which) {
            log.add(new int[] {hour, person, hook, face, which});
            if (log.size() > 60) {
                log.remove(0);
            }
        }

        void hand(int person, int hook) {
            Person one = people.get(person);
            hooks.set(hook, one.wears);
            one.wears = NONE;
            one.ticket = hook;
            note(person, hook, hooks.get(hook), 0);
        }

        void fetch(int person) {
            Person one = people.get(person);
            int hook = one.ticket;
            one.wears = hooks.set(hook, NONE);
            one.ticket = NONE;
            note(person, hook, one.wears, 1);
        }

        void mixTickets(int person, int other) {
            int first = people.get(person).ticket;
            people.get(person).ticket = people.get(other).ticket;
            people.get(other).ticket = first;
            for (int one : new TreeSet<>(List.of(person, other))) {
                note(one, people.get(one).ticket, NONE, 3);
            }
        }

        void meeting(int person, int other) {
            Person one = people.get(person);
            Person two = people.get(other);
            Set<Integer> all = new TreeSet<>(one.knows);
            all.addAll(two.knows);
            one.knows = new TreeSet<>(all);
            one.knows.add(other);
            one.knows.remove(person);
            two.knows = new TreeSet<>(all);
            two.knows.add(person);
            two.knows.remove(other);
            one.thinks.set(other, new TreeSet<>(two.knows));
            two.thinks.set(person, new TreeSet<>(one.knows));
        }

        private int draw() {
            long next = 1103515245L * seed + 12345L;
            seed = (int) next;
            return (int) (next >> 16 & 32767);
        }

        private boolean holds(String word, int person) {
            boolean some = false;
            for (int i = 0; law != null && i < law.size(); i++) {
                some |= law.get(i).word().equals(word) && law.get(i).holds().test(this, person);
            }
            return some;
        }

        int anHour() {
            int often = 0;
            for (int person = 0; person < people.size(); person++) {
                Person one = people.get(person);
                if (one.wears != NONE && one.ticket == NONE && hooks.contains(NONE) && holds("hand", person)) {
                    hand(person, hooks.indexOf(NONE));
                    often++;
                } else if (one.wears == NONE && one.ticket != NONE && holds("fetch", person)) {
                    fetch(person);
                    often++;
                }
            }
            boolean mixes = draw() % 100 < mix;
            List<Integer> with = new ArrayList<>();
            for (int person = 0; person < people.size(); person++) {
                if (people.get(person).ticket != NONE) {
                    with.add(person);
                }
            }
            if (mixes && with.size() > 1) {
                int first = with.remove(draw() % with.size());
                mixTickets(first, with.get(draw() % with.size()));
            }
            boolean robs = draw() % 100 < thief;
            List<Integer> hang = new ArrayList<>(hooks);
            hang.removeIf(face -> face == NONE);
            if (robs && !hang.isEmpty()) {
                Set<Integer> marks = people.get(hang.get(draw() % hang.size())).face;
                marks.remove(marks.isEmpty() ? NONE : Collections.min(marks));
            }
            hour++;
            return often;
        }
    }
}
