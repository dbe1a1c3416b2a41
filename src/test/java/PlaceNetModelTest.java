import java.lang.reflect.InvocationTargetException;
import java.lang.reflect.Method;
import java.util.ArrayDeque;
import java.util.Arrays;
import java.util.Random;
import java.util.TreeMap;

/** Random runs of 512 calls: each answer, and all that can be seen after it, as the model has it. */
public final class PlaceNetModelTest {
    private static final int RUNS = 800;
    private static final int CALLS = 512;
    private static final int[] ODD = {
        -1, 0, 1, 2, 7, 8, 15, 16, 31, 32, 33, 200, 1000, 1001, Integer.MIN_VALUE, Integer.MAX_VALUE};
    private static final int[] LENGTHS = {0, 1, 2, 3, 4, 4, 5, 6, 8, 8, 12, 16, 24, 30, 31, 32};
    private static final String[] BUILD = {"delegate", "site", "site", "prefix", "prefix"};
    private static final String[] QUERY = {"message", "packet", "note", "truth", "count"};
    private static final String[][] MOODS = {
        {"repeat", "repeat", "repeat", "repeat", "send", "register", "carry", "drop"},
        {"send", "carry", "carry", "run", "forge", "move", "register", "pass"},
        {"send", "send", "run", "register", "goodRegister", "goodRegister", "pass", "move"},
        {"send", "send", "send", "send", "send", "run", "run", "pass"},
        {"send", "carry", "badReply", "badReply", "run", "goodRegister", "run", "move"},
        {"send", "send", "register", "run", "referrals", "crowd", "solicitAgain", "move"}};

    private static final TreeMap<String, Integer> outcomes = new TreeMap<>();

    private final Random random;
    private final PlaceNet x = new PlaceNet();
    private final Model model = new Model();
    private final String[] mood;
    private final ArrayDeque<Op> planned = new ArrayDeque<>();

    private record Op(String name, int... args) {
        @Override
        public String toString() {
            return name + Arrays.toString(args);
        }
    }

    private PlaceNetModelTest(long seed) {
        random = new Random(seed);
        mood = MOODS[(int) (seed % MOODS.length)];
    }

    public static void main(String[] args) {
        Check check = new Check();
        for (int run = 1; run <= RUNS && check.isClean(); run++) {
            check.about("run " + run);
            new PlaceNetModelTest(run).go(check);
        }
        checkReached(check);
        check.end();
    }

    /** A random test that reaches little would pass for nothing. */
    private static void checkReached(Check check) {
        check.about("the runs reach");
        for (int what = 1; what <= 5; what++) {
            check.same("count " + what, outcomes.containsKey("count " + what) ? 1 : 0, 1);
        }
        for (int state = 0; state <= 4; state++) {
            check.same("state " + state, outcomes.containsKey("state " + state) ? 1 : 0, 1);
        }
        for (Method m : PlaceNet.class.getMethods()) {
            if (m.getDeclaringClass() == PlaceNet.class) {
                check.same(m.getName(), outcomes.getOrDefault(m.getName(), 0) > 50 ? 1 : 0, 1);
                for (Class<?> type : m.getExceptionTypes()) {
                    String name = m.getName() + " " + type.getName();
                    check.same(name, outcomes.containsKey(name) ? 1 : 0, 1);
                }
            }
        }
    }

    private void go(Check check) {
        for (int i = 0; i < CALLS && check.isClean(); i++) {
            if (planned.isEmpty()) {
                plan(i);
            }
            Op op = planned.poll();
            String got = answer(x, op);
            check.same("call " + i + ", " + op + " (" + got + ")", got.equals(answer(model, op)) ? 1 : 0, 1);
            outcomes.merge(got.startsWith("java") ? op.name + " " + got : op.name, 1, Integer::sum);
            compare(check, "after call " + i + ", " + op);
        }
        for (int what = 0; what < 9; what++) {
            outcomes.merge(x.count(what) > 0 ? "count " + what : "", 1, Integer::sum);
        }
        for (int p = 1; p <= x.count(5); p++) {
            outcomes.merge("state " + x.packet(p, 0), 1, Integer::sum);
        }
    }

    private static String answer(Object net, Op op) {
        try {
            Class<?>[] types = new Class<?>[op.args.length];
            Object[] values = new Object[op.args.length];
            for (int i = 0; i < types.length; i++) {
                types[i] = int.class;
                values[i] = op.args[i];
            }
            return String.valueOf(net.getClass().getDeclaredMethod(op.name, types).invoke(net, values));
        } catch (InvocationTargetException e) {
            return e.getCause().getClass().getName();
        } catch (ReflectiveOperationException e) {
            throw new IllegalStateException(e);
        }
    }

    private void compare(Check check, String when) {
        for (int what = -1; what <= 9; what++) {
            check.same(when + ": count " + what, x.count(what), model.count(what));
        }
        int size = x.count(0);
        for (int k = 0; k < size; k += k + 5 < size ? 7 : 1) {
            for (int what = 0; what < 8; what++) {
                check.same(when + ": message " + k, x.message(k, what), model.message(k, what));
            }
        }
        for (int p = 1; p <= x.count(5); p++) {
            for (int what = 0; what < 4; what++) {
                check.same(when + ": packet " + p, x.packet(p, what), model.packet(p, what));
            }
        }
        int endpoint = endpoint();
        check.same(when + ": truth of " + endpoint, x.truth(endpoint), model.truth(endpoint));
        for (int s : model.sites.keySet()) {
            for (int what = 0; what < 3; what++) {
                check.same(when + ": note " + endpoint, x.note(s, endpoint, what), model.note(s, endpoint, what));
            }
        }
    }

    private int endpoint() {
        switch (random.nextInt(8)) {
            case 0:
                return random.nextInt();
            case 1:
                return random.nextInt(4) - 2;
            case 2:
                return Integer.MIN_VALUE + random.nextInt(3) - 1;
            default:
                return (random.nextInt(8) << 28) + (random.nextInt(3) << 24)
                        + (random.nextInt(2) << 8) + random.nextInt(2);
        }
    }

    private int[] prefix() {
        int length = LENGTHS[random.nextInt(LENGTHS.length)];
        int mask = length == 0 ? 0 : -1 << (32 - length);
        return new int[] {endpoint() & mask, length};
    }

    /** Half of the time the newest message, so that what just came about is worked on. */
    private int message() {
        int size = x.count(0);
        return size == 0 ? 0 : random.nextBoolean() ? size - 1 : random.nextInt(size);
    }

    private void plan(int i) {
        String name = i < 30 && random.nextInt(5) > 0 || random.nextInt(40) == 0
                ? BUILD[random.nextInt(BUILD.length)]
                : random.nextInt(12) == 0 ? QUERY[random.nextInt(QUERY.length)] : mood[random.nextInt(mood.length)];
        if (name.equals("goodRegister")) {
            planRegister();
        } else if (name.equals("badReply")) {
            planReply();
        } else if (name.equals("referrals")) {
            planReferrals();
        } else if (name.equals("crowd")) {
            planCrowd();
        } else if (name.equals("solicitAgain")) {
            planSolicit();
        } else {
            int[] args = arguments(name);
            if (random.nextInt(20) == 0) {
                args[random.nextInt(args.length)] = ODD[random.nextInt(ODD.length)];
            }
            planned.add(new Op(name, args));
        }
    }

    private int[] arguments(String name) {
        int[] p = prefix();
        switch (name) {
            case "delegate":
                return new int[] {random.nextInt(3), random.nextInt(8), p[0], p[1]};
            case "site":
            case "move":
                return new int[] {random.nextInt(8), random.nextInt(16)};
            case "prefix":
                return new int[] {random.nextInt(8), p[0], p[1]};
            case "register":
                return new int[] {random.nextInt(8)};
            case "send":
                return new int[] {random.nextInt(8), endpoint()};
            case "carry":
            case "repeat":
            case "drop":
                return new int[] {message()};
            case "forge":
                return new int[] {message(), random.nextInt(6), random.nextBoolean() ? endpoint() : random.nextInt(20) - 2};
            case "message":
                return new int[] {message(), random.nextInt(9)};
            case "run":
                return new int[] {random.nextInt(9) == 0 ? 1000 : random.nextInt(6)};
            case "pass":
                return new int[] {random.nextInt(8) == 0 ? 60 : 1 + random.nextInt(20)};
            case "packet":
                return new int[] {random.nextInt(x.count(5) + 2), random.nextInt(5)};
            case "note":
                return new int[] {random.nextInt(8), endpoint(), random.nextInt(4)};
            case "truth":
                return new int[] {endpoint()};
            default:
                return new int[] {random.nextInt(10)};
        }
    }

    /** The oldest message of that kind; how many messages there are, if there is none. */
    private int oldest(int kind) {
        int k = 0;
        while (k < x.count(0) && x.message(k, 6) != kind) {
            k++;
        }
        return k;
    }

    /** Turns a REGISTER, if one lies there, into another one with a right tag, and carries it. */
    private void planRegister() {
        int k = oldest(0);
        if (k >= x.count(0)) {
            planned.add(new Op("register", random.nextInt(8)));
            return;
        }
        int[] p = prefix();
        if (random.nextInt(3) == 0) {
            p = new int[] {(9 << 28) + (random.nextInt(20) << 20), 12};
        }
        int nonce = random.nextInt(9) == 0 ? random.nextInt(40) - 3 : x.message(k, 4) + random.nextInt(2);
        if (random.nextInt(25) == 0) {
            nonce = random.nextInt(9) == 0 ? Integer.MAX_VALUE : Integer.MIN_VALUE;
        }
        int[] said = {random.nextInt(4) == 0 ? random.nextInt(8) : x.message(k, 0), p[0], p[1], random.nextInt(17), nonce};
        for (int i = 0; i < 5; i++) {
            planned.add(new Op("forge", k, i, said[i]));
        }
        planned.add(new Op("forge", k, 5, Model.tag(said)));
        planned.add(new Op("repeat", k));
        planned.add(new Op("carry", k));
    }

    /** Turns a REPLY, if one lies there, into one with another sort, piece or value, and carries it. */
    private void planReply() {
        int k = oldest(2);
        if (k >= x.count(0)) {
            planned.add(new Op("run", 1));
            return;
        }
        int length = LENGTHS[random.nextInt(LENGTHS.length)];
        int endpoint = endpoint();
        for (int p = 1; p <= x.count(5); p++) {
            Model.Packet packet = model.packets.get(p - 1);
            endpoint = packet.nonce == x.message(k, 0) ? packet.endpoint : endpoint;
        }
        planned.add(new Op("forge", k, 1, random.nextInt(4)));
        planned.add(new Op("forge", k, 2, endpoint & (length == 0 ? 0 : -1 << (32 - length))));
        planned.add(new Op("forge", k, 3, length));
        planned.add(new Op("forge", k, 4, random.nextInt(10)));
        planned.add(new Op("forge", k, 5, random.nextInt(10)));
        planned.add(new Op("carry", k));
    }

    /** A new packet is referred to server 0 again and again, up to ten times. */
    private void planReferrals() {
        int k = x.count(0);
        planned.add(new Op("send", random.nextInt(8), endpoint()));
        for (int i = 8 + random.nextInt(3); i > 0; i--) {
            planned.add(new Op("carry", k));
            planned.add(new Op("forge", k, 1, 0));
            planned.add(new Op("forge", k, 4, 0));
            planned.add(new Op("carry", k));
        }
    }

    /** Fills the row with a DATA, if one lies there, whose place is left before they are carried. */
    private void planCrowd() {
        int k = oldest(3);
        if (k >= x.count(0)) {
            planned.add(new Op("send", random.nextInt(8), endpoint()));
            planned.add(new Op("run", 6));
            return;
        }
        for (int i = x.count(0); i <= 200; i++) {
            planned.add(new Op("repeat", k));
        }
        Integer host = model.siteAtPlace(x.message(k, 7));
        if (host != null) {
            planned.add(new Op("move", host, random.nextInt(16)));
        }
        planned.add(new Op("carry", k));
        planned.add(new Op("run", 1000));
    }

    private void planSolicit() {
        int k = oldest(4);
        planned.add(k < x.count(0) ? new Op("repeat", k) : new Op("move", random.nextInt(8), random.nextInt(16)));
    }
}
