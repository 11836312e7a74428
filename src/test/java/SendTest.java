/** Promises 7 (send) and 8 (load). */
final class SendTest {
    private static final Due due = new Due();

    public static void main(String[] args) {
        numbers();
        sendRefusals();
        sendLimit();
        loadDraws();
        loadRefusals();
        loadLimit();
        refusedLoadDrawsNothing();
        due.end();
    }

    private static void numbers() {
        NetRoutes net = Nets.line(3, 1);
        due.is("first", 0, net.send(0, 2, 1));
        due.is("second", 1, net.send(2, 0, 16));
        due.is("to itself", 2, net.send(1, 1, 7));
        due.is("load goes on from there", 4, net.load(2));
        due.is("and send from that", 5, net.send(0, 1, 2));
        due.is("packets", 6, net.count(2));
        due.is("flits of 1", 16, net.packet(1, 1));
        due.is("in no buffer", 0, net.packet(1, 2));
        due.is("none left", 0, net.packet(1, 3));
        due.is("not arrived", 0, net.packet(1, 0));
    }

    private static void sendRefusals() {
        NetRoutes net = Nets.nodes(1, 2);
        int[][] wrong = {{-1, 0, 1}, {2, 0, 1}, {0, -1, 1}, {0, 2, 1}, {0, 1, 0}, {0, 1, 17}, {0, 1, -1},
            {Integer.MIN_VALUE, 0, 1}, {0, Integer.MAX_VALUE, 1}, {0, 1, Integer.MIN_VALUE}};
        for (int[] w : wrong) {
            due.throwing("send(" + w[0] + ", " + w[1] + ", " + w[2] + ")", IllegalArgumentException.class,
                () -> net.send(w[0], w[1], w[2]));
        }
        due.is("no packet came of it", 0, net.count(2));
    }

    private static void sendLimit() {
        NetRoutes net = Nets.nodes(1, 1);
        for (int k = 0; k < 400; k++) {
            due.is("send", k, net.send(0, 0, 1));
        }
        due.throwing("packet 401", UnsupportedOperationException.class, () -> net.send(0, 0, 1));
        due.throwing("packet 401 from nowhere", IllegalArgumentException.class, () -> net.send(1, 0, 1));
        due.throwing("packet 401 to nowhere", IllegalArgumentException.class, () -> net.send(0, 1, 1));
        due.throwing("packet 401 without flits", IllegalArgumentException.class, () -> net.send(0, 0, 0));
        due.is("packets", 400, net.count(2));
        due.is("all leave", 400, net.run(400));
        due.throwing("those that arrived count too", UnsupportedOperationException.class, () -> net.send(0, 0, 1));
    }

    /** The draws with whole numbers of any length, so that no overflow is shared with the class. */
    private static void loadDraws() {
        for (int seed : new int[] {0, 1, 7, -1, -99, 12345, Integer.MAX_VALUE, Integer.MIN_VALUE}) {
            for (int nodes : new int[] {1, 2, 7, 16}) {
                drawsAre(seed, nodes);
            }
        }
    }

    private static void drawsAre(int seed, int nodes) {
        Draws draws = new Draws(seed);
        NetRoutes net = Nets.nodes(seed, nodes);
        int[] queued = new int[nodes];
        int last = NetRoutes.NONE;
        for (int many : new int[] {1, 50, 3}) {
            due.is("load(" + many + ")", last + many, net.load(many));
            for (int p = last + 1; p <= last + many; p++) {
                int from = draws.next() % nodes;
                int to = draws.next() % nodes;
                int flits = 1 + draws.next() % 8;
                due.is("flits of packet " + p, flits, net.packet(p, 1));
                queued[from] += flits;
            }
            last += many;
        }
        int sum = 0;
        for (int flits : queued) {
            sum += flits;
        }
        due.is("flits in queues", sum, net.count(5));
    }

    private static void loadRefusals() {
        NetRoutes none = new NetRoutes(1);
        due.throwing("load(1) without nodes", IllegalStateException.class, () -> none.load(1));
        due.throwing("load(0) without nodes", IllegalArgumentException.class, () -> none.load(0));
        due.throwing("load(51) without nodes", IllegalArgumentException.class, () -> none.load(51));
        NetRoutes net = Nets.nodes(1, 1);
        for (int many : new int[] {0, -1, 51, Integer.MIN_VALUE, Integer.MAX_VALUE}) {
            due.throwing("load(" + many + ")", IllegalArgumentException.class, () -> net.load(many));
        }
        due.is("load(50)", 49, net.load(50));
    }

    private static void loadLimit() {
        NetRoutes net = Nets.nodes(1, 2);
        for (int k = 1; k <= 7; k++) {
            net.load(50);
        }
        net.send(0, 0, 1);
        due.throwing("351 and 50", UnsupportedOperationException.class, () -> net.load(50));
        due.is("nothing came of it", 351, net.count(2));
        due.is("351 and 49", 399, net.load(49));
        due.throwing("400 and 1", UnsupportedOperationException.class, () -> net.load(1));
        due.throwing("400 and 51", IllegalArgumentException.class, () -> net.load(51));
        due.throwing("400 and 0", IllegalArgumentException.class, () -> net.load(0));
    }

    private static void refusedLoadDrawsNothing() {
        NetRoutes net = new NetRoutes(77);
        Draws draws = new Draws(77);
        due.throwing("no nodes", IllegalStateException.class, () -> net.load(3));
        net.node();
        due.throwing("too many", IllegalArgumentException.class, () -> net.load(51));
        for (int k = 0; k < 360; k++) {
            net.send(0, 0, 1);
        }
        due.throwing("no room", UnsupportedOperationException.class, () -> net.load(41));
        net.load(1);
        draws.next();
        draws.next();
        due.is("first draw", 1 + draws.next() % 8, net.packet(360, 1));
    }
}
