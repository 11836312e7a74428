import java.util.List;
import java.util.Random;

/** Calls with any arguments in any state: nothing is thrown but what the promise of the call names, by that very class. */
final class WildTest {
    private static final Due due = new Due();
    private static final int[] EDGES = {Integer.MIN_VALUE, Integer.MIN_VALUE + 1, -5, -4, -2, -1, 0, 1, 2, 3, 4, 5, 8, 15,
        16, 17, 39, 40, 41, 50, 51, 159, 160, 161, 399, 400, 401, 2000, 2001, 65536, Integer.MAX_VALUE};

    private static final List<Class<?>> ARGUMENT = List.of(IllegalArgumentException.class);
    private static final List<Class<?>> LIMIT = List.of(UnsupportedOperationException.class);
    private static final List<Class<?>> BOTH = List.of(IllegalArgumentException.class, UnsupportedOperationException.class);
    private static final List<Class<?>> LOAD = List.of(IllegalArgumentException.class, IllegalStateException.class,
        UnsupportedOperationException.class);
    private static final List<Class<?>> INDEX = List.of(IndexOutOfBoundsException.class);

    private static final int CALLS = 512;

    private final Random random;
    private final NetRoutes net;

    private WildTest(int run) {
        random = new Random(run);
        net = new NetRoutes(random.nextInt());
    }

    public static void main(String[] args) {
        for (int run = 0; run < 400; run++) {
            WildTest wild = new WildTest(run);
            for (int k = 0; k < CALLS; k++) {
                wild.oneCall();
            }
        }
        due.end();
    }

    private int any() {
        return random.nextInt(3) == 0 ? EDGES[random.nextInt(EDGES.length)] : random.nextInt(18) - 1;
    }

    private int anyChannel() {
        return random.nextBoolean() ? any() : random.nextInt(164) - 2;
    }

    private void oneCall() {
        int a = any();
        int b = any();
        int c = any();
        int channel = anyChannel();
        switch (random.nextInt(16)) {
            case 0 -> only("node", LIMIT, net::node);
            case 1, 2 -> only("link", BOTH, () -> net.link(a, b, c));
            case 3, 4 -> only("route", ARGUMENT, () -> net.route(a, b, channel));
            case 5 -> only("routes", ARGUMENT, () -> net.routes(a));
            case 6 -> only("fail", ARGUMENT, () -> random.nextInt(3) == 0 ? net.fail(a) : 0);
            case 7 -> only("send", BOTH, () -> net.send(a, b, c));
            case 8 -> only("load", LOAD, () -> net.load(a));
            case 9 -> only("run", ARGUMENT, () -> net.run(a));
            case 10 -> only("packet", INDEX, () -> net.packet(channel, b));
            case 11 -> only("channel", INDEX, () -> net.channel(channel, b));
            case 12 -> only("ringAt", INDEX, () -> net.ringAt(a));
            case 13 -> only("ring", List.of(), net::ring);
            case 14 -> only("stuck", List.of(), () -> net.stuck() ? 1 : 0);
            default -> only("count", List.of(), () -> net.count(a));
        }
    }

    private void only(String call, List<Class<?>> named, Due.Call made) {
        Class<?> thrown = null;
        try {
            made.answer();
        } catch (RuntimeException e) {
            thrown = e.getClass();
        }
        due.is(call + " threw " + thrown, true, thrown == null || named.contains(thrown));
    }
}
