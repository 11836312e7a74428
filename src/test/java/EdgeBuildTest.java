/** The boundary cases that promises 1 (a new object), 2 (node) and 3 (link) name, sentence by sentence. */
final class EdgeBuildTest {
    private static final int NONE = NetRoutes.NONE;
    private static final int[] SEEDS = {0, 1, -1, Integer.MAX_VALUE, Integer.MIN_VALUE};
    private static final Edges edges = new Edges("Promise 1", "Promise 2", "Promise 3");

    public static void main(String[] args) {
        noNodes();
        nodeNumbers();
        sixteenNodes();
        linkNumbers();
        linkOfNoSuchNodes();
        linkOfOneNode();
        linkChannels();
        fortyLinks();
        edges.end();
    }

    private static void noNodes() {
        edges.says("Promise 1", "No nodes.");
        for (int seed : SEEDS) {
            NetRoutes net = new NetRoutes(seed);
            edges.is("count(0)", 0, net.count(0));
            edges.throwing("link(0, 1, 1)", Edges.ARGUMENT, () -> net.link(0, 1, 1));
            edges.throwing("route(0, 1, NONE)", Edges.ARGUMENT, () -> net.route(0, 1, NONE));
            edges.throwing("routes(0)", Edges.ARGUMENT, () -> net.routes(0));
            edges.throwing("send(0, 0, 1)", Edges.ARGUMENT, () -> net.send(0, 0, 1));
            edges.throwing("load(1)", Edges.STATE, () -> net.load(1));
            edges.is("run(2000)", 0, net.run(2000));
            for (int what : new int[] {0, 1, 2, 3, 5, 6, 7, 8, 9}) {
                edges.is("count(" + what + ")", 0, net.count(what));
            }
            edges.is("the first node()", 0, net.node());
        }
    }

    private static void nodeNumbers() {
        edges.says("Promise 2", "A node more: its number.");
        NetRoutes net = new NetRoutes(3);
        for (int k = 0; k < 16; k++) {
            int last = k;
            edges.throwing("before it, send(" + k + ", " + k + ", 1)", Edges.ARGUMENT, () -> net.send(last, last, 1));
            edges.is("node()", k, net.node());
            edges.is("count(0)", k + 1, net.count(0));
            edges.is("send from the new one", k, net.send(k, k, 1));
            edges.is("pairs without a way", k * (k + 1), net.count(9));
        }
        edges.is("each queue lets one go", 16, net.run(1));
    }

    private static void sixteenNodes() {
        edges.says("Promise 2", "UnsupportedOperationException, when there are sixteen.");
        edges.is("node() with fifteen", 15, Nets.nodes(1, 15).node());
        edges.refused("node() with sixteen", Edges.LIMIT, () -> Nets.nodes(1, 16), NetRoutes::node);
        edges.refused("node() with sixteen and all links", Edges.LIMIT, Nets::full, NetRoutes::node);
        NetRoutes net = Nets.nodes(1, 16);
        for (int k = 0; k < 3; k++) {
            edges.throwing("node() again", Edges.LIMIT, net::node);
        }
        edges.is("count(0)", 16, net.count(0));
        edges.throwing("link to a seventeenth", Edges.ARGUMENT, () -> net.link(0, 16, 1));
    }

    private static void linkNumbers() {
        edges.says("Promise 3", "A link from a to b: its number.");
        NetRoutes net = Nets.nodes(1, 16);
        for (int k = 0; k < 40; k++) {
            edges.is("count(1)", k, net.count(1));
            edges.is("link(15, 0, 4)", k, net.link(15, 0, 4));
        }
        edges.is("from a on: route(15, 0, 0)", NONE, net.route(15, 0, 0));
        edges.is("the last one too: route(15, 0, 159)", 0, net.route(15, 0, 159));
        edges.throwing("not from b on: route(0, 15, 0)", Edges.ARGUMENT, () -> net.route(0, 15, 0));
        net.send(15, 0, 1);
        net.run(1);
        edges.is("flits of channel 159", 1, net.channel(159, 0));
        edges.is("to b", 1, net.run(1));
    }

    private static void linkOfNoSuchNodes() {
        edges.says("Promise 3", "IllegalArgumentException, when there are no such nodes");
        for (int node : new int[] {-1, 4, 5, 15, 16, Integer.MIN_VALUE, Integer.MAX_VALUE}) {
            edges.refused("link(" + node + ", 0, 1)", Edges.ARGUMENT, Nets::busy, net -> net.link(node, 0, 1));
            edges.refused("link(0, " + node + ", 1)", Edges.ARGUMENT, Nets::busy, net -> net.link(0, node, 1));
            edges.refused("link(" + node + ", " + node + ", 1)", Edges.ARGUMENT, Nets::busy, net -> net.link(node, node, 1));
        }
        edges.is("from the lowest to the highest of four", 4, Nets.busy().link(0, 3, 1));
        edges.is("from the highest to the lowest of four", 4, Nets.busy().link(3, 0, 1));
        NetRoutes sixteen = Nets.nodes(1, 16);
        edges.throwing("link(16, 0, 1)", Edges.ARGUMENT, () -> sixteen.link(16, 0, 1));
        edges.throwing("link(0, 16, 1)", Edges.ARGUMENT, () -> sixteen.link(0, 16, 1));
        edges.is("link(15, 0, 1)", 0, sixteen.link(15, 0, 1));
        edges.is("link(0, 15, 1)", 1, sixteen.link(0, 15, 1));
    }

    private static void linkOfOneNode() {
        edges.says("Promise 3", "they are one");
        for (int k = 0; k < 4; k++) {
            int node = k;
            edges.refused("link(" + k + ", " + k + ", 1)", Edges.ARGUMENT, Nets::busy, net -> net.link(node, node, 1));
        }
        edges.refused("the only node", Edges.ARGUMENT, () -> Nets.nodes(1, 1), net -> net.link(0, 0, 4));
    }

    private static void linkChannels() {
        edges.says("Promise 3", "channels are not 1 .. 4");
        for (int channels : new int[] {0, 5, -1, 8, Integer.MIN_VALUE, Integer.MAX_VALUE}) {
            edges.refused("link(0, 1, " + channels + ")", Edges.ARGUMENT, Nets::busy, net -> net.link(0, 1, channels));
        }
        NetRoutes net = Nets.nodes(1, 2);
        for (int channels = 1; channels <= 4; channels++) {
            int first = 4 * net.link(0, 1, channels);
            for (int k = 0; k < 4; k++) {
                int channel = first + k;
                if (k < channels) {
                    edges.is("of " + channels + " channels " + k, 0, net.channel(channel, 0));
                } else {
                    edges.throwing("of " + channels + " channels " + k, Edges.INDEX, () -> net.channel(channel, 0));
                }
            }
        }
    }

    private static void fortyLinks() {
        edges.says("Promise 3", "UnsupportedOperationException, when there are forty.");
        NetRoutes net = Nets.nodes(1, 2);
        for (int k = 0; k < 39; k++) {
            net.link(0, 1, 1);
        }
        edges.is("link with thirty-nine", 39, net.link(0, 1, 1));
        edges.throwing("link with forty", Edges.LIMIT, () -> net.link(0, 1, 1));
        net.fail(0);
        edges.throwing("those that failed are links still", Edges.LIMIT, () -> net.link(0, 1, 1));
        edges.is("count(1)", 40, net.count(1));
        for (int channels = 1; channels <= 4; channels++) {
            int many = channels;
            edges.refused("link(15, 0, " + many + ")", Edges.LIMIT, Nets::full, full -> full.link(15, 0, many));
        }
    }
}
