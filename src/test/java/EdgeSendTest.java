/** The boundary cases that promises 7 (send) and 8 (load) name, sentence by sentence. */
final class EdgeSendTest {
    private static final int[] SEEDS = {0, 1, -1, 2, -2, 65535, -65536, 1 << 30, Integer.MAX_VALUE, Integer.MIN_VALUE};
    private static final Edges edges = new Edges("Promise 7", "Promise 8");

    public static void main(String[] args) {
        toAnotherOrItself();
        numbers();
        sendOfNoSuchNodes();
        sendFlits();
        sendWhenFull();
        loadMany();
        lowestBits();
        drawnFrom();
        drawnTo();
        drawnFlits();
        lastNumber();
        loadOfTooFewOrMany();
        loadWithoutNodes();
        loadWhenFull();
        edges.end();
    }

    private static void toAnotherOrItself() {
        edges.says("Promise 7", "A packet from a node to another one, or itself");
        NetRoutes net = Nets.line(16, 1);
        net.send(0, 15, 1);
        net.send(15, 15, 1);
        net.send(15, 0, 1);
        edges.is("to itself: the first cycle", 1, net.run(1));
        edges.is("to another one: by all links", 1, net.run(100));
        edges.is("in cycle", 16, net.packet(0, 0));
        edges.is("where there is no way", 0, net.packet(2, 0));
        edges.is("flits that wait", 1, net.packet(2, 1));
    }

    private static void numbers() {
        edges.says("Promise 7", "its number, from 0 on");
        NetRoutes net = Nets.nodes(1, 2);
        for (int p = 0; p < 400; p++) {
            edges.is("send", p, net.send(p % 2, 0, 1));
        }
        NetRoutes mixed = Nets.nodes(1, 2);
        mixed.load(50);
        edges.is("behind fifty", 50, mixed.send(0, 0, 1));
        mixed.run(2000);
        edges.is("numbers of those that arrived are not given again", 51, mixed.send(0, 0, 1));
    }

    private static void sendOfNoSuchNodes() {
        edges.says("Promise 7", "IllegalArgumentException, when there are no such nodes");
        for (int node : new int[] {-1, 4, 15, 16, Integer.MIN_VALUE, Integer.MAX_VALUE}) {
            edges.refused("send(" + node + ", 0, 1)", Edges.ARGUMENT, Nets::busy, net -> net.send(node, 0, 1));
            edges.refused("send(0, " + node + ", 1)", Edges.ARGUMENT, Nets::busy, net -> net.send(0, node, 1));
            edges.refused("send(" + node + ", " + node + ", 1)", Edges.ARGUMENT, Nets::busy, net -> net.send(node, node, 1));
        }
        edges.refused("send(16, 0, 1) of sixteen", Edges.ARGUMENT, Nets::full, net -> net.send(16, 0, 1));
        edges.refused("send(0, 16, 1) of sixteen", Edges.ARGUMENT, Nets::full, net -> net.send(0, 16, 1));
        edges.refused("send(0, 0, 1) without nodes", Edges.ARGUMENT, () -> new NetRoutes(1), net -> net.send(0, 0, 1));
        edges.is("the lowest and the highest", 0, Nets.full().send(0, 15, 1));
        edges.is("the highest and the lowest", 0, Nets.full().send(15, 0, 1));
    }

    private static void sendFlits() {
        edges.says("Promise 7", "flits are not 1 .. 16");
        for (int flits : new int[] {0, 17, -1, 32, Integer.MIN_VALUE, Integer.MAX_VALUE}) {
            edges.refused("send(0, 1, " + flits + ")", Edges.ARGUMENT, Nets::busy, net -> net.send(0, 1, flits));
        }
        for (int flits = 1; flits <= 16; flits++) {
            NetRoutes net = Nets.line(2, 1);
            edges.is("send(0, 1, " + flits + ")", 0, net.send(0, 1, flits));
            edges.is("flits that wait", flits, net.packet(0, 1));
            edges.is("run(" + flits + ")", 0, net.run(flits));
            edges.is("one cycle more", 1, net.run(1));
            edges.is("flits that left", flits, net.packet(0, 3));
        }
    }

    private static void sendWhenFull() {
        edges.says("Promise 7", "UnsupportedOperationException, when there are 400.");
        edges.refused("send(0, 0, 1)", Edges.LIMIT, () -> Nets.loaded(Nets.circle(4, 2)), net -> net.send(0, 0, 1));
        edges.refused("send(15, 0, 16)", Edges.LIMIT, () -> Nets.loaded(Nets.full()), net -> net.send(15, 0, 16));
        NetRoutes net = Nets.nodes(1, 1);
        for (int k = 0; k < 7; k++) {
            net.load(50);
        }
        net.load(49);
        edges.is("with 399", 399, net.send(0, 0, 1));
        edges.throwing("with 400", Edges.LIMIT, () -> net.send(0, 0, 1));
        net.run(2000);
        net.run(2000);
        edges.is("all arrived", 400, net.count(3));
        edges.throwing("with 400 that arrived", Edges.LIMIT, () -> net.send(0, 0, 1));
        edges.is("packets", 400, net.count(2));
    }

    private static void loadMany() {
        edges.says("Promise 8", "So many packets (1 .. 50) by the seed, at first that of the net");
        for (int seed : SEEDS) {
            for (int many : new int[] {1, 2, 49, 50}) {
                NetRoutes net = Nets.nodes(seed, 3);
                net.load(many);
                edges.is("packets", many, net.count(2));
                drawnFlitsAre(net, new Draws(seed), many);
            }
        }
        NetRoutes parts = Nets.nodes(11, 3);
        NetRoutes whole = Nets.nodes(11, 3);
        parts.load(1);
        parts.load(48);
        parts.send(0, 0, 1);
        parts.load(1);
        whole.load(50);
        for (int p = 0; p < 49; p++) {
            edges.is("flits of " + p, whole.packet(p, 1), parts.packet(p, 1));
        }
        edges.is("the seed goes on from call to call", whole.packet(49, 1), parts.packet(50, 1));
    }

    private static void drawnFlitsAre(NetRoutes net, Draws draws, int many) {
        for (int p = 0; p < many; p++) {
            draws.next();
            draws.next();
            edges.is("flits of packet " + p, 1 + draws.next() % 8, net.packet(p, 1));
        }
    }

    /** Each packet goes alone round a circle, where the channels show from where to where it went. */
    private static void wayOfPacketsIs(int seed, int nodes, int packets) {
        NetRoutes net = nodes == 1 ? Nets.nodes(seed, 1) : seededCircle(seed, nodes);
        Draws draws = new Draws(seed);
        int[] entered = new int[nodes];
        for (int p = 0; p < packets; p++) {
            int from = draws.next() % nodes;
            int to = draws.next() % nodes;
            int flits = 1 + draws.next() % 8;
            net.load(1);
            edges.is("arrived", 1, net.run(60));
            for (int at = from; at != to; at = (at + 1) % nodes) {
                entered[at] += flits;
            }
            for (int k = 0; k < nodes && nodes > 1; k++) {
                edges.is("seed " + seed + ", packet " + p + " of " + nodes + " nodes from " + from + " to " + to
                    + ": flits by link " + k, entered[k], net.channel(4 * k, 3));
            }
        }
    }

    private static NetRoutes seededCircle(int seed, int nodes) {
        NetRoutes net = Nets.nodes(seed, nodes);
        for (int k = 0; k < nodes; k++) {
            net.link(k, (k + 1) % nodes, 1);
        }
        return Nets.withAllRoutes(net);
    }

    private static void lowestBits() {
        edges.says("Promise 8", "x becomes 1103515245 * x + 12345, of that the lowest 31 bits");
        for (int seed : SEEDS) {
            wayOfPacketsIs(seed, 7, 12);
        }
    }

    private static void drawnFrom() {
        edges.says("Promise 8", "from is x / 65536 modulo the nodes");
        for (int nodes = 1; nodes <= 16; nodes++) {
            wayOfPacketsIs(5, nodes, 10);
        }
        nodesAsTheyAreThen(21);
        nodesAsTheyAreThen(-4);
    }

    /** Nodes come one by one, each with links to and from node 0: up by link 2 * k - 2, down by link 2 * k - 1. */
    private static void nodesAsTheyAreThen(int seed) {
        NetRoutes net = Nets.nodes(seed, 1);
        Draws draws = new Draws(seed);
        int[] entered = new int[40];
        for (int nodes = 2; nodes <= 16; nodes++) {
            net.node();
            net.link(nodes - 1, 0, 1);
            net.link(0, nodes - 1, 1);
            Nets.withAllRoutes(net);
            int from = draws.next() % nodes;
            int to = draws.next() % nodes;
            int flits = 1 + draws.next() % 8;
            net.load(1);
            edges.is("arrived", 1, net.run(60));
            if (from != to && from > 0) {
                entered[2 * from - 2] += flits;
                edges.is("up from " + from, entered[2 * from - 2], net.channel(8 * from - 8, 3));
            }
            if (from != to && to > 0) {
                entered[2 * to - 1] += flits;
                edges.is("down to " + to, entered[2 * to - 1], net.channel(8 * to - 4, 3));
            }
        }
    }

    private static void drawnTo() {
        edges.says("Promise 8", "again, to likewise");
        for (int nodes = 1; nodes <= 16; nodes++) {
            wayOfPacketsIs(-77, nodes, 10);
        }
    }

    private static void drawnFlits() {
        edges.says("Promise 8", "again, flits are 1 more than x / 65536 modulo 8");
        boolean[] seen = new boolean[20];
        for (int seed : SEEDS) {
            NetRoutes net = Nets.nodes(seed, 2);
            net.load(50);
            drawnFlitsAre(net, new Draws(seed), 50);
            for (int p = 0; p < 50; p++) {
                seen[net.packet(p, 1)] = true;
            }
        }
        for (int flits = 0; flits < seen.length; flits++) {
            edges.is("some have " + flits + " flits", flits >= 1 && flits <= 8, seen[flits]);
        }
    }

    private static void lastNumber() {
        edges.says("Promise 8", "the number of the last one");
        NetRoutes net = Nets.nodes(1, 2);
        edges.is("load(1) at first", 0, net.load(1));
        edges.is("load(50)", 50, net.load(50));
        net.send(0, 0, 1);
        edges.is("load(1)", 52, net.load(1));
        for (int k = 1; k <= 6; k++) {
            edges.is("load(50)", 52 + 50 * k, net.load(50));
        }
        edges.is("load(47) to the last of all", 399, net.load(47));
    }

    private static void loadOfTooFewOrMany() {
        edges.says("Promise 8", "IllegalArgumentException, when many are none of these");
        for (int many : new int[] {0, 51, -1, 400, Integer.MIN_VALUE, Integer.MAX_VALUE}) {
            edges.refused("load(" + many + ")", Edges.ARGUMENT, Nets::busy, net -> net.load(many));
        }
    }

    private static void loadWithoutNodes() {
        edges.says("Promise 8", "IllegalStateException, when there are no nodes");
        for (int many : new int[] {1, 50}) {
            edges.refused("load(" + many + ")", Edges.STATE, () -> new NetRoutes(1), net -> net.load(many));
        }
        NetRoutes net = new NetRoutes(8);
        edges.throwing("load(50)", Edges.STATE, () -> net.load(50));
        net.node();
        edges.is("with one node", 49, net.load(50));
        drawnFlitsAre(net, new Draws(8), 50);
    }

    private static void loadWhenFull() {
        edges.says("Promise 8", "UnsupportedOperationException, when there would be more than 400.");
        for (int many : new int[] {1, 50}) {
            edges.refused("load(" + many + ") with 400", Edges.LIMIT, () -> Nets.loaded(Nets.full()), net -> net.load(many));
        }
        for (int left = 1; left < 50; left += 8) {
            int room = left;
            edges.refused("load(" + (left + 1) + ") with room for " + left, Edges.LIMIT, () -> withRoom(room), net -> net.load(room + 1));
            edges.refused("load(50) with room for " + left, Edges.LIMIT, () -> withRoom(room), net -> net.load(50));
            edges.is("load(" + left + ") with room for so many", 399, withRoom(room).load(room));
        }
    }

    private static NetRoutes withRoom(int room) {
        NetRoutes net = Nets.line(3, 1);
        for (int k = 0; k < 7; k++) {
            net.load(50);
        }
        if (room < 50) {
            net.load(50 - room);
        }
        return net;
    }
}
