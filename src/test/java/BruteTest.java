import java.util.ArrayDeque;
import java.util.ArrayList;
import java.util.HashMap;
import java.util.List;
import java.util.Map;
import java.util.Random;

/** Random states, asked in ways that are slow and plain: all orders, all sets, all swaps. */
public final class BruteTest {
    private static final int NONE = HungFaces.NONE;
    private static final Random RANDOM = new Random(20261117);

    public static void main(String[] args) {
        List<List<int[]>> orders = new ArrayList<>();
        for (int n = 0; n <= 6; n++) {
            orders.add(allOrders(n));
        }
        for (int i = 0; i < 400; i++) {
            HungFaces x = randomState(RANDOM.nextInt(6) + 1);
            List<int[]> own = orders.get(x.count(0));
            swapsAsTried(x);
            marksAsTried(x);
            coreAsTold(x);
            blockAsTried(x, own);
            saidAsTried(x, own);
            ticketsAsTried(x, orders);
            forgedAsTried(x);
            chainAsTried(x);
            hearsAsTold(x);
        }
        Check.close();
    }

    private static HungFaces randomState(int people) {
        HungFaces x = new HungFaces();
        StringBuilder text = new StringBuilder();
        for (int i = 0; i < people; i++) {
            int marks = RANDOM.nextInt(256) & RANDOM.nextInt(256);
            text.append(i == 0 ? "" : ";").append("person ").append(Check.figures(marks));
            text.append(' ').append(Check.figures(RANDOM.nextInt(4)));
        }
        Check.door(x, text.append(";hooks 4").toString());
        for (int one = 0; one < people; one++) {
            Check.door(x, "wish " + one + someOrder(people));
        }
        for (int i = 0; i < 40; i++) {
            int one = RANDOM.nextInt(people);
            int other = RANDOM.nextInt(people);
            int hook = RANDOM.nextInt(4);
            int kind = RANDOM.nextInt(8);
            Check.thrownBy(() -> kind < 2 ? x.hand(one, hook) : kind < 3 ? x.fetch(one) : kind < 4 ? x.steal(one, hook)
                    : kind < 5 ? x.mix(one, other) : kind < 7 ? x.change(one, other) : x.shave(one, hook));
        }
        for (int i = 0; i < people && people > 1; i++) {
            int one = RANDOM.nextInt(people);
            int other = (one + 1 + RANDOM.nextInt(people - 1)) % people;
            if (x.count(3) < 12) {
                String back = RANDOM.nextInt(3) == 0 ? "" : ";knows " + other + " " + one;
                Check.door(x, "knows " + one + " " + other + back);
            }
        }
        return x;
    }

    private static String someOrder(int people) {
        List<Integer> left = new ArrayList<>();
        for (int i = 0; i < people; i++) {
            left.add(i);
        }
        StringBuilder text = new StringBuilder();
        int told = 1 + RANDOM.nextInt(people);
        for (int i = 0; i < told; i++) {
            text.append(' ').append(left.remove(RANDOM.nextInt(left.size())));
        }
        return text.toString();
    }

    private static List<int[]> allOrders(int n) {
        List<int[]> all = new ArrayList<>();
        addOrders(new int[n], 0, 0, all);
        return all;
    }

    private static void addOrders(int[] order, int at, int used, List<int[]> all) {
        if (at == order.length) {
            all.add(order.clone());
        }
        for (int i = 0; i < order.length; i++) {
            if ((used >> i & 1) == 0 && at < order.length) {
                order[at] = i;
                addOrders(order, at + 1, used | 1 << i, all);
            }
        }
    }

    /** Goes through all that swaps can reach, for as few PEOPLE as that can be done for. */
    private static void swapsAsTried(HungFaces x) {
        int people = x.count(0);
        if (people > 4) {
            return;
        }
        StringBuilder start = new StringBuilder();
        for (int one = 0; one < people; one++) {
            start.append((char) ('b' + x.person(one, 1)));
        }
        for (int hook = 0; hook < x.count(1); hook++) {
            start.append((char) ('b' + x.hook(hook)));
        }
        String goal = "bcdefghijk".substring(0, people);
        Map<String, Integer> steps = new HashMap<>();
        ArrayDeque<String> next = new ArrayDeque<>();
        steps.put(start.toString(), 0);
        next.add(start.toString());
        while (!next.isEmpty()) {
            String at = next.remove();
            if (at.startsWith(goal)) {
                Check.due("swaps", x.swaps(), steps.get(at));
                return;
            }
            for (int i = 0; i < at.length(); i++) {
                for (int j = 0; j < i; j++) {
                    StringBuilder to = new StringBuilder(at);
                    to.setCharAt(i, at.charAt(j));
                    to.setCharAt(j, at.charAt(i));
                    if (steps.putIfAbsent(to.toString(), steps.get(at) + 1) == null) {
                        next.add(to.toString());
                    }
                }
            }
        }
        Check.due("swaps reach the goal", false, true);
    }

    private static boolean better(int set, int best) {
        int more = best == NONE ? 1 : Integer.bitCount(best) - Integer.bitCount(set);
        return more > 0 || more == 0 && set < best;
    }

    private static void marksAsTried(HungFaces x) {
        int best = NONE;
        for (int set = 255; set >= 0; set--) {
            boolean parted = true;
            for (int one = 0; one < x.count(0); one++) {
                for (int other = 0; other < one; other++) {
                    parted &= (x.face(one, 0) & set) != (x.face(other, 0) & set);
                }
            }
            best = parted && better(set, best) ? set : best;
        }
        Check.due("marks", x.marks(), best);
    }

    private static int place(HungFaces x, int one, int face) {
        for (int k = 0; k < x.count(0); k++) {
            if (x.wish(one, k) == face) {
                return k;
            }
        }
        return 99;
    }

    /** All rings of a round leave at once. */
    private static void coreAsTold(HungFaces x) {
        int people = x.count(0);
        int[] gets = new int[people];
        java.util.Arrays.fill(gets, NONE);
        List<Integer> left = new ArrayList<>();
        for (int one = 0; one < people; one++) {
            if (x.person(one, 1) != NONE) {
                left.add(one);
            }
        }
        while (!left.isEmpty()) {
            Map<Integer, Integer> points = new HashMap<>();
            for (int one : left) {
                int best = left.get(0);
                for (int other : left) {
                    best = place(x, one, x.person(other, 1)) < place(x, one, x.person(best, 1)) ? other : best;
                }
                points.put(one, best);
            }
            List<Integer> leaving = new ArrayList<>();
            for (int one : left) {
                int at = one;
                for (int i = 0; i < people; i++) {
                    at = points.get(at);
                    if (at == one && !leaving.contains(one)) {
                        leaving.add(one);
                    }
                }
            }
            for (int one : leaving) {
                gets[one] = x.person(points.get(one), 1);
            }
            left.removeAll(leaving);
        }
        int gains = 0;
        for (int one = 0; one < people; one++) {
            Check.due("core", x.core(one), gets[one]);
            gains += gets[one] == x.person(one, 1) ? 0 : 1;
        }
        Check.due("gains", x.gains(), gains);
    }

    private static void blockAsTried(HungFaces x, List<int[]> orders) {
        int people = x.count(0);
        for (int set = 0; set < 1 << people; set++) {
            int asked = set;
            boolean bare = false;
            for (int one = 0; one < people; one++) {
                bare |= (set >> one & 1) != 0 && x.person(one, 1) == NONE;
            }
            if (bare) {
                Check.throwsDue("block of one without", Check.STATE, () -> x.block(asked) ? 1 : 0);
                continue;
            }
            boolean could = false;
            for (int[] order : orders) {
                could |= allBetter(x, order, set);
            }
            Check.due("block", x.block(set), could);
        }
    }

    private static boolean allBetter(HungFaces x, int[] order, int set) {
        boolean some = false;
        for (int one = 0; one < order.length; one++) {
            boolean in = (set >> one & 1) != 0;
            if (in != ((set >> order[one] & 1) != 0) || !in && order[one] != one) {
                return false;
            }
            if (in) {
                int now = place(x, one, x.person(one, 1));
                int then = place(x, one, x.person(order[one], 1));
                if (then > now) {
                    return false;
                }
                some |= then < now;
            }
        }
        return some;
    }

    private static boolean isSo(int[] owners, int[] said, int set) {
        for (int i = 0; i < said.length / 3; i++) {
            if ((set >> i & 1) != 0 && owners[said[3 * i]] == said[3 * i + 1] != (said[3 * i + 2] == 1)) {
                return false;
            }
        }
        return true;
    }

    private static void saidAsTried(HungFaces x, List<int[]> orders) {
        int people = x.count(0);
        int many = RANDOM.nextInt(people > 4 ? 8 : 6);
        int[] said = new int[3 * many];
        for (int i = 0; i < many; i++) {
            said[3 * i] = RANDOM.nextInt(people);
            said[3 * i + 1] = RANDOM.nextInt(people);
            said[3 * i + 2] = RANDOM.nextInt(4) == 0 ? 1 : 0;
        }
        int all = 0;
        int[][] have = new int[people][people];
        for (int[] owners : orders) {
            if (isSo(owners, said, -1)) {
                all++;
                for (int one = 0; one < people; one++) {
                    have[one][owners[one]]++;
                }
            }
        }
        Check.tape(x, said);
        Check.due("fits", x.fits(-1), all);
        for (int one = 0; one < people; one++) {
            int sure = NONE;
            int best = NONE;
            int part = Integer.MAX_VALUE;
            for (int face = 0; face < people; face++) {
                sure = all > 0 && have[one][face] == all ? face : sure;
                int greater = Math.max(have[one][face], all - have[one][face]);
                if (all > 1 && greater < part) {
                    best = face;
                    part = greater;
                }
            }
            Check.tape(x, said);
            Check.due("fits of one", x.fits(one), sure);
            Check.tape(x, said);
            Check.due("ask", x.ask(one), best);
        }
        int clash = all > 0 ? 0 : NONE;
        for (int set = (1 << many) - 1; set >= 0 && all == 0; set--) {
            boolean can = false;
            for (int[] owners : orders) {
                can |= isSo(owners, said, set);
            }
            clash = !can && better(set, clash) ? set : clash;
        }
        Check.tape(x, said);
        Check.due("clash", x.clash(), clash);
    }

    private static void ticketsAsTried(HungFaces x, List<List<int[]>> orders) {
        List<Integer> who = new ArrayList<>();
        for (int one = 0; one < x.count(0); one++) {
            if (x.person(one, 2) != NONE) {
                who.add(one);
            }
        }
        int least = Integer.MAX_VALUE;
        int[] first = null;
        int[] back = new int[11];
        for (int[] order : orders.get(who.size())) {
            int at = 0;
            int minutes = 0;
            int together = 0;
            int same = 0;
            for (int i = 0; i < order.length; i++) {
                int hook = x.person(who.get(order[i]), 2);
                minutes += Math.abs(hook - at) + 1;
                together += minutes;
                at = hook;
                same += order[i] == i ? 1 : 0;
            }
            back[same]++;
            if (together < least) {
                least = together;
                first = order;
            }
        }
        Check.due("queue", x.queue(-1), least);
        for (int k = 0; k < who.size(); k++) {
            Check.due("queue of k", x.queue(k), who.get(first[k]));
        }
        Check.due("queue beyond", x.queue(who.size()), NONE);
        for (int m = 0; m <= 10; m++) {
            Check.due("ways", x.ways(m), back[m]);
        }
    }

    private static void forgedAsTried(HungFaces x) {
        int marks = RANDOM.nextInt(256) & RANDOM.nextInt(256);
        int best = NONE;
        for (int set = (1 << x.count(0)) - 1; set >= 0; set--) {
            int have = 0;
            boolean hang = true;
            for (int face = 0; face < x.count(0); face++) {
                if ((set >> face & 1) != 0) {
                    have |= x.face(face, 0);
                    hang &= x.face(face, 2) != NONE;
                }
            }
            best = hang && (have & marks) == marks && better(set, best) ? set : best;
        }
        Check.due("forged", x.forged(marks), best);
    }

    private static void hearsAsTold(HungFaces x) {
        int people = x.count(0);
        boolean[][] knows = new boolean[people][people];
        for (int i = 0; i < people; i++) {
            for (int j = 0; j < people; j++) {
                knows[i][j] = (x.person(i, 4) >> j & 1) != 0;
            }
        }
        for (int round = 0; round < 4; round++) {
            for (int i = 0; i < people; i++) {
                int bits = 0;
                for (int j = 0; j < people; j++) {
                    bits |= knows[i][j] ? 1 << j : 0;
                }
                Check.due("hears", x.hears(i, round), bits);
            }
            for (int i = 0; i < people; i++) {
                for (int j = i + 1; j < people; j++) {
                    for (int k = 0; k < people && knows[i][j] && knows[j][i]; k++) {
                        boolean either = knows[i][k] || knows[j][k];
                        knows[i][k] = either && k != i;
                        knows[j][k] = either && k != j;
                        // What both are of each other stays: they KNOW each other.
                        knows[i][j] = true;
                        knows[j][i] = true;
                    }
                }
            }
        }
    }

    private static void chainAsTried(HungFaces x) {
        int people = x.count(0);
        int[][] steps = new int[people][people];
        for (int i = 0; i < people; i++) {
            for (int j = 0; j < people; j++) {
                steps[i][j] = (x.person(i, 4) >> j & 1) != 0 ? 1 : 99;
            }
        }
        for (int k = 0; k < people; k++) {
            for (int i = 0; i < people; i++) {
                for (int j = 0; j < people; j++) {
                    steps[i][j] = Math.min(steps[i][j], steps[i][k] + steps[k][j]);
                }
            }
        }
        for (int i = 0; i < people; i++) {
            for (int j = 0; j < people; j++) {
                if (i != j) {
                    Check.due("chain", x.chain(i, j), steps[i][j] > 98 ? NONE : steps[i][j]);
                }
            }
        }
    }
}
