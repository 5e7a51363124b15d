import java.util.Arrays;
import java.util.List;
import java.util.Random;

/** Random calls with good and bad arguments: only told exceptions come, and by one that comes nothing changes. */
public final class StormTest {
    private static final Random RANDOM = new Random(512);
    private static final List<String> I = List.of(Check.INDEX);
    private static final List<String> A = List.of(Check.ARGUMENT);
    private static final List<String> S = List.of(Check.STATE);
    private static final List<String> IA = List.of(Check.INDEX, Check.ARGUMENT);
    private static final List<String> IS = List.of(Check.INDEX, Check.STATE);
    private static final List<String> IAS = List.of(Check.INDEX, Check.ARGUMENT, Check.STATE);
    private static final List<String> IN = List.of(Check.INDEX, Check.NO_ELEMENT);
    private static final List<String> AU = List.of(Check.ARGUMENT, Check.UNSUPPORTED);
    private static final List<String> N = List.of(Check.NO_ELEMENT);
    private static final List<String> NO = List.of();
    private static final String[] DOOR = {"person", "wish", "wed", "knows", "hooks", "mix", "thief", "10010000",
        "01100001", "11111111", "0", "1", "2", "3", "9", "12", "100", "1000", ";", ";", ";", " ", "x", "(", "hand"};
    private static final String[] GOOD_DOOR = {"person 10110010 01000000", "person 00000111 01000000", "wish 0 1",
        "wed 0 1", "wed 2 3", "knows 0 1 2", "knows 1 0", "hooks 3", "hooks 12", "mix 50", "thief 90", "wish 1 2 0 3",
        "person 11111111 11111111;person 11000011 10101010"};
    private static final String[] GOOD_LAW = {"hand", "fetch", "hand if own", "fetch if hour>3",
        "hand if marks>2 and not wed",
        "fetch if hook<2 or (who+1>3)", "hand if free>1;fetch if hung>2", "fetch if not own;hand if who<4", ""};

    public static void main(String[] args) {
        for (int i = 0; i < 250; i++) {
            storm();
        }
        Check.close();
    }

    private static int some(int below) {
        int kind = RANDOM.nextInt(40);
        if (kind == 0) {
            return RANDOM.nextInt();
        }
        if (kind == 1) {
            return RANDOM.nextBoolean() ? Integer.MIN_VALUE : Integer.MAX_VALUE;
        }
        return kind < 6 ? RANDOM.nextInt(below + 3) - 1 : RANDOM.nextInt(Math.max(1, below));
    }

    private static void tell(HungFaces x, boolean ofDoor) {
        int kind = RANDOM.nextInt(6);
        x.end(0);
        if (kind < 4) {
            String[] from = ofDoor ? GOOD_DOOR : GOOD_LAW;
            Check.tape(x, from[RANDOM.nextInt(from.length)]);
        } else if (kind < 5) {
            StringBuilder text = new StringBuilder();
            int things = RANDOM.nextInt(20);
            for (int i = 0; i < things; i++) {
                text.append(DOOR[RANDOM.nextInt(DOOR.length)]).append(RANDOM.nextBoolean() ? " " : "");
            }
            Check.tape(x, text.substring(0, Math.min(400, text.length())));
        } else {
            int[] bytes = new int[RANDOM.nextInt(401)];
            for (int i = 0; i < bytes.length; i++) {
                bytes[i] = RANDOM.nextInt(4) == 0 ? RANDOM.nextInt(256) : RANDOM.nextInt(4);
            }
            Check.tape(x, bytes);
        }
    }

    private static void say(HungFaces x) {
        x.end(0);
        int many = RANDOM.nextInt(RANDOM.nextInt(8) == 0 ? 15 : 6);
        int[] bytes = new int[3 * many + (RANDOM.nextInt(10) == 0 ? 1 : 0)];
        for (int i = 0; i < bytes.length; i++) {
            int below = RANDOM.nextInt(20) == 0 ? 256 : i % 3 == 2 ? 2 : Math.max(1, x.count(0));
            bytes[i] = RANDOM.nextInt(below);
        }
        Check.tape(x, bytes);
    }

    private static void storm() {
        HungFaces x = RANDOM.nextBoolean() ? new HungFaces() : Check.crowd(RANDOM.nextInt(11));
        for (int calls = 0; calls < 400; calls++) {
            int kind = calls < 4 ? 2 : RANDOM.nextInt(52);
            if (kind == 2 || kind == 3) {
                tell(x, kind == 2);
            } else if (kind >= 30 && kind <= 32) {
                say(x);
            }
            int p = some(x.count(0));
            int q = some(x.count(0));
            int h = some(x.count(1));
            int n = some(12);
            String before = Check.seen(x);
            int fault = x.fault();
            String thrown = Check.thrownBy(() -> call(x, kind, p, q, h, n));
            if (!thrown.isEmpty()) {
                Check.due("call " + kind + " may throw " + thrown, told(kind).contains(thrown), true);
                Check.due("call " + kind + " that throws changes nothing", Check.seen(x).equals(before), true);
            } else if (kind < 2 || kind >= 4 && kind < 10 || kind >= 20 && kind < 46 || kind == 50) {
                Check.due("call " + kind + " only asks", Check.seen(x).equals(before), true);
            }
            if (kind >= 30 && kind <= 32 || kind == 2 || kind == 3) {
                Check.due("call " + kind + " uses up the tape", x.end(1), false);
            }
            if (kind != 2 && kind != 3) {
                Check.due("call " + kind + " leaves fault", x.fault(), fault);
            }
            holdsTogether(x);
        }
    }

    /** Each FACE is in one place, each TICKET is of a HOOK, and each HOOK with a FACE has its TICKET out. */
    private static void holdsTogether(HungFaces x) {
        int places = 0;
        boolean ofHooks = true;
        for (int face = 0; face < x.count(0); face++) {
            places += (x.face(face, 1) == HungFaces.NONE ? 0 : 1) + (x.face(face, 2) == HungFaces.NONE ? 0 : 1);
            ofHooks &= x.person(face, 2) < x.count(1);
        }
        Check.due("places of faces", places, x.count(0));
        Check.due("tickets are of hooks", ofHooks, true);
        Check.due("lost", x.lost(), 0);
        Check.due("unclaimed", x.unclaimed(), 0);
    }

    private static List<String> told(int kind) {
        List<List<String>> all = Arrays.asList(
                NO, NO, AU, A, NO, IN, IN, I, I, IA,
                IS, IS, IAS, IS, IAS, IS, IAS, IA, A, NO,
                NO, NO, NO, NO, NO, NO, NO, A, I, NO,
                IA, IA, A, S, NO, A, A, I, NO, IA,
                IA, A, A, I, N, NO, NO, NO, IS, NO,
                NO, NO);
        return all.get(kind);
    }

    private static long call(HungFaces x, int kind, int p, int q, int h, int n) {
        switch (kind) {
            case 0: return x.feed(p, q, h, n, 7);
            case 1: return x.end(n) ? 1 : 0;
            case 2: return x.door();
            case 3: return x.law();
            case 4: return x.fault();
            case 5: return x.person(p, n);
            case 6: return x.face(p, n);
            case 7: return x.hook(h);
            case 8: return x.wish(p, n);
            case 9: return x.thinks(p, q);
            case 10: return x.hand(p, h);
            case 11: return x.fetch(p);
            case 12: return x.mix(p, q);
            case 13: return x.steal(p, h);
            case 14: return x.change(p, q);
            case 15: return x.shave(p, n);
            case 16: return x.graft(p, q, n);
            case 17: return x.meet(p, q);
            case 18: return x.hours(n);
            case 19: return x.undo() ? 1 : 0;
            case 20: return x.wrong();
            case 21: return x.lost();
            case 22: return x.unclaimed();
            case 23: return x.swaps();
            case 24: return x.saved();
            case 25: return x.marks();
            case 26: return x.unknown();
            case 27: return x.passes(n * 20, p);
            case 28: return x.core(p);
            case 29: return x.gains();
            case 30: return x.fits(p);
            case 31: return x.ask(p);
            case 32: return x.clash();
            case 33: return x.block(1 << p | 1 << q) ? 1 : 0;
            case 34: return x.queue(n);
            case 35: return x.forged(n * 20);
            case 36: return x.ways(n);
            case 37: return x.talk(h);
            case 38: return x.row(n < 3);
            case 39: return x.chain(p, q);
            case 40: return x.hears(p, n * 2);
            case 41: return x.trial(n * 3);
            case 42: return x.span(n * 3, p < 1);
            case 43: return x.led(p, n < 4);
            case 44: return x.log(n, q);
            case 45: return x.queue(-1);
            case 46: return x.seed(n * 1000003);
            case 47: x.image(); return 0;
            case 48: return x.hand(RANDOM.nextInt(Math.max(1, x.count(0))), 0) * 0;
            case 49: return x.back() ? 1 : 0;
            case 50: return x.count(n);
            default: return x.hours(1 + Math.floorMod(n, 3));
        }
    }
}
