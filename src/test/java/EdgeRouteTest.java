/** The boundary cases that promises 4 (route), 5 (routes) and 6 (fail) name, sentence by sentence. */
final class EdgeRouteTest {
    private static final int NONE = NetRoutes.NONE;
    private static final int[] NO_NODES = {-1, 4, 15, 16, Integer.MIN_VALUE, Integer.MAX_VALUE};
    private static final Edges edges = new Edges("Promise 4", "Promise 5", "Promise 6");

    public static void main(String[] args) {
        channelBefore();
        noneAnyMore();
        routeOfNoSuchNodes();
        routeOfOneNode();
        noSuchChannel();
        beginsElsewhere();
        routeByFailedLink();
        routeLeavesHolders();
        allAnew();
        everyNodeThatCan();
        asFewLinks();
        lowestLink();
        channelZero();
        othersHaveNone();
        howManyHaveOne();
        routesToNoSuchNode();
        linkFails();
        howManyRoutes();
        failLeavesFlitsAndHolders();
        failNoSuchLink();
        failTwice();
        edges.end();
    }

    /** Forty links of four channels from node 15 to node 0. */
    private static NetRoutes beside() {
        NetRoutes net = Nets.nodes(1, 16);
        for (int k = 0; k < 40; k++) {
            net.link(15, 0, 4);
        }
        return net;
    }

    private static void channelBefore() {
        edges.says("Promise 4", "The route at a node to another one: the channel before, or NONE.");
        NetRoutes net = beside();
        int before = NONE;
        for (int channel : new int[] {0, 3, 4, 156, 159, 159, 0}) {
            edges.is("route(15, 0, " + channel + ")", before, net.route(15, 0, channel));
            before = channel;
        }
        for (int to = 1; to < 15; to++) {
            edges.is("each end has its own: route(15, " + to + ", 159)", NONE, net.route(15, to, 159));
        }
        edges.is("the first end's has stayed", 0, net.route(15, 0, 0));
        for (int node = 0; node < 15; node++) {
            edges.is("each node has its own: route(" + node + ", 15, NONE)", NONE, net.route(node, 15, NONE));
        }
    }

    private static void noneAnyMore() {
        edges.says("Promise 4", "With channel NONE there is none any more.");
        NetRoutes net = Nets.line(2, 4);
        net.route(0, 1, 3);
        net.send(0, 1, 1);
        edges.is("route(0, 1, NONE)", 3, net.route(0, 1, NONE));
        edges.is("again", NONE, net.route(0, 1, NONE));
        edges.is("pairs without a way", 2, net.count(9));
        edges.is("run(50)", 0, net.run(50));
        edges.is("the packet waits", 1, net.packet(0, 1));
        edges.is("at a node without links", NONE, net.route(1, 0, NONE));
    }

    private static void routeOfNoSuchNodes() {
        edges.says("Promise 4", "IllegalArgumentException, when there are no such nodes");
        for (int node : NO_NODES) {
            for (int channel : new int[] {0, NONE}) {
                edges.refused("route(" + node + ", 1, " + channel + ")", Edges.ARGUMENT, Nets::busy, net -> net.route(node, 1, channel));
                edges.refused("route(0, " + node + ", " + channel + ")", Edges.ARGUMENT, Nets::busy, net -> net.route(0, node, channel));
                edges.refused("route(" + node + ", " + node + ", " + channel + ")", Edges.ARGUMENT, Nets::busy,
                    net -> net.route(node, node, channel));
            }
        }
        edges.is("the lowest and the highest node", 0, Nets.busy().route(0, 3, 0));
        edges.is("the highest and the lowest node", 12, Nets.busy().route(3, 0, 12));
    }

    private static void routeOfOneNode() {
        edges.says("Promise 4", "they are one");
        for (int k = 0; k < 4; k++) {
            int node = k;
            edges.refused("route(" + k + ", " + k + ", " + 4 * k + ")", Edges.ARGUMENT, Nets::busy, net -> net.route(node, node, 4 * node));
            edges.refused("route(" + k + ", " + k + ", NONE)", Edges.ARGUMENT, Nets::busy, net -> net.route(node, node, NONE));
        }
    }

    private static void noSuchChannel() {
        edges.says("Promise 4", "there is no such channel");
        for (int channel : new int[] {-2, -3, -4, -8, 2, 3, 16, 17, 159, 160, Integer.MIN_VALUE, Integer.MAX_VALUE}) {
            edges.refused("route(0, 1, " + channel + ")", Edges.ARGUMENT, Nets::busy, net -> net.route(0, 1, channel));
        }
        NetRoutes net = beside();
        edges.throwing("route(15, 0, 160)", Edges.ARGUMENT, () -> net.route(15, 0, 160));
        edges.is("route(15, 0, 159)", NONE, net.route(15, 0, 159));
        for (int many = 1; many <= 4; many++) {
            NetRoutes line = Nets.line(2, many);
            int behind = many;
            edges.is("the last of " + many, 0, line.route(0, 1, many - 1));
            edges.throwing("behind the last of " + many, Edges.ARGUMENT, () -> line.route(0, 1, behind));
        }
    }

    private static void beginsElsewhere() {
        edges.says("Promise 4", "its link does not begin there");
        for (int link = 1; link < 4; link++) {
            for (int lane = 0; lane < 2; lane++) {
                int channel = 4 * link + lane;
                edges.refused("route(0, 2, " + channel + ")", Edges.ARGUMENT, Nets::busy, net -> net.route(0, 2, channel));
            }
        }
        edges.refused("where it ends: route(1, 0, 0)", Edges.ARGUMENT, Nets::busy, net -> net.route(1, 0, 0));
    }

    private static void routeByFailedLink() {
        edges.says("Promise 4", "has failed");
        for (int lane = 0; lane < 4; lane++) {
            int channel = lane;
            edges.refused("route(0, 1, " + lane + ")", Edges.ARGUMENT, EdgeRouteTest::failed, net -> net.route(0, 1, channel));
            edges.is("by the link beside it", NONE, failed().route(0, 1, 4 + lane));
        }
        edges.is("none at all", NONE, failed().route(0, 1, NONE));
    }

    /** Two links side by side, of which the first has failed. */
    private static NetRoutes failed() {
        NetRoutes net = Nets.line(2, 4);
        net.link(0, 1, 4);
        net.fail(0);
        return net;
    }

    private static void routeLeavesHolders() {
        edges.says("Promise 4", "(What holds a channel goes on.)");
        for (int channel : new int[] {NONE, 3}) {
            NetRoutes net = Nets.line(2, 4);
            net.send(0, 1, 16);
            net.run(1);
            net.route(0, 1, channel);
            edges.is("held by", 0, net.channel(0, 1));
            edges.is("run(15)", 0, net.run(15));
            edges.is("run(1)", 1, net.run(1));
            edges.is("all flits by channel 0", 16, net.channel(0, 3));
            edges.is("the last flit let it go", NONE, net.channel(0, 1));
        }
    }

    private static void allAnew() {
        edges.says("Promise 5", "Makes all routes to a node anew");
        NetRoutes net = Nets.circle(3, 4);
        net.link(1, 0, 4);
        net.route(0, 2, 3);
        net.route(1, 2, 15);
        net.route(1, 0, 7);
        edges.is("routes(2)", 2, net.routes(2));
        edges.is("not as it was at 0", 0, net.route(0, 2, 0));
        edges.is("not as it was at 1", 4, net.route(1, 2, 4));
        edges.is("to other nodes as before", 7, net.route(1, 0, 7));
        edges.is("again", 2, net.routes(2));
        edges.is("the same again", 0, net.route(0, 2, 0));
    }

    private static void everyNodeThatCan() {
        edges.says("Promise 5", "from every node that can come to it by links that have not failed");
        NetRoutes net = Nets.line(16, 1);
        edges.is("from all, the farthest by fifteen links", 15, net.routes(15));
        net.fail(7);
        edges.is("from those behind the one that failed", 7, net.routes(15));
        edges.is("the first one that can", 32, net.route(8, 15, 32));
        edges.is("the last one that can't", NONE, net.route(7, 15, NONE));
        net.link(0, 8, 1);
        edges.is("by another link", 8, net.routes(15));
        net.fail(14);
        edges.is("when the last link failed", 0, net.routes(15));
    }

    private static void asFewLinks() {
        edges.says("Promise 5", "by as few links as can be");
        NetRoutes net = Nets.line(16, 1);
        net.link(0, 14, 1);
        net.link(0, 15, 1);
        net.routes(15);
        edges.is("by one link, though its number is the highest", 64, net.route(0, 15, 64));
        net.fail(16);
        net.routes(15);
        edges.is("by two", 60, net.route(0, 15, 60));
        net.fail(15);
        net.routes(15);
        edges.is("by fifteen", 0, net.route(0, 15, 0));
    }

    private static void lowestLink() {
        edges.says("Promise 5", "of these by the link of the lowest number");
        NetRoutes net = beside();
        for (int link = 0; link < 40; link++) {
            edges.is("routes(0)", 1, net.routes(0));
            edges.is("the lowest that has not failed", 4 * link, net.route(15, 0, 4 * link));
            net.fail(link);
        }
        edges.is("when all have failed", 0, net.routes(0));
        NetRoutes two = Nets.nodes(1, 4);
        two.link(1, 3, 1);
        two.link(2, 3, 1);
        two.link(0, 2, 1);
        two.link(0, 1, 1);
        two.routes(3);
        edges.is("by the lower link, not the lower node", 8, two.route(0, 3, NONE));
    }

    private static void channelZero() {
        edges.says("Promise 5", "its channel 0");
        for (int many = 1; many <= 4; many++) {
            NetRoutes net = Nets.line(3, many);
            net.route(1, 2, 4 + many - 1);
            net.routes(2);
            edges.is("at 1", 4, net.route(1, 2, 4));
            edges.is("at 0", 0, net.route(0, 2, 0));
        }
    }

    private static void othersHaveNone() {
        edges.says("Promise 5", "others have none");
        NetRoutes net = Nets.line(3, 1);
        net.link(1, 0, 1);
        net.route(1, 2, 8);
        net.fail(1);
        edges.is("routes(2)", 0, net.routes(2));
        edges.is("not that at 0, which leads to 1", NONE, net.route(0, 2, NONE));
        edges.is("not that at 1, which leads to 0", NONE, net.route(1, 2, NONE));
    }

    private static void howManyHaveOne() {
        edges.says("Promise 5", "how many have one");
        edges.is("a node alone", 0, Nets.nodes(1, 1).routes(0));
        edges.is("sixteen without links", 0, Nets.nodes(1, 16).routes(15));
        NetRoutes circle = Nets.circle(16, 1);
        for (int to = 0; to < 16; to++) {
            edges.is("all but itself: routes(" + to + ")", 15, circle.routes(to));
        }
        NetRoutes line = Nets.line(16, 1);
        for (int to = 0; to < 16; to++) {
            edges.is("those before it: routes(" + to + ")", to, line.routes(to));
        }
    }

    private static void routesToNoSuchNode() {
        edges.says("Promise 5", "IllegalArgumentException, when there is no such node.");
        for (int to : NO_NODES) {
            edges.refused("routes(" + to + ")", Edges.ARGUMENT, Nets::busy, net -> net.routes(to));
        }
        edges.refused("routes(0) without nodes", Edges.ARGUMENT, () -> new NetRoutes(1), net -> net.routes(0));
        edges.refused("routes(16) of sixteen", Edges.ARGUMENT, Nets::full, net -> net.routes(16));
        edges.is("the highest", 15, Nets.full().routes(15));
        edges.is("the lowest", 15, Nets.full().routes(0));
    }

    private static void linkFails() {
        edges.says("Promise 6", "A link fails");
        for (int link : new int[] {0, 20, 39}) {
            NetRoutes net = beside();
            int channel = 4 * link;
            net.route(15, 0, channel);
            net.send(15, 0, 1);
            net.fail(link);
            edges.is("run(20)", 0, net.run(20));
            edges.is("flits by it", 0, net.channel(channel, 3));
            edges.throwing("a route by it", Edges.ARGUMENT, () -> net.route(15, 0, channel));
            edges.is("links", 40, net.count(1));
        }
    }

    private static void howManyRoutes() {
        edges.says("Promise 6", "how many routes went by it (they are gone)");
        NetRoutes net = beside();
        edges.is("none", 0, net.fail(39));
        for (int to = 0; to < 15; to++) {
            net.route(15, to, to % 4);
        }
        edges.is("none by the link behind it", 0, net.fail(1));
        net.route(15, 14, 8);
        edges.is("all but one, by four channels", 14, net.fail(0));
        for (int to = 0; to < 14; to++) {
            edges.is("gone", NONE, net.route(15, to, NONE));
        }
        edges.is("by another link: there still", 8, net.route(15, 14, 8));
        edges.is("the one by channel 0 of a link", 1, net.fail(2));
        for (int to = 0; to < 15; to++) {
            net.route(15, to, 12 + 3);
        }
        edges.is("as many as there can be", 15, net.fail(3));
        net.route(15, 0, 16);
        net.route(15, 0, NONE);
        edges.is("one that was taken away before", 0, net.fail(4));
    }

    private static void failLeavesFlitsAndHolders() {
        edges.says("Promise 6", "What is on it, or holds its channels, goes on.");
        NetRoutes net = Nets.line(3, 1);
        net.route(1, 2, NONE);
        net.send(0, 2, 4);
        net.send(0, 2, 3);
        net.send(0, 2, 1);
        net.run(5);
        edges.is("a full buffer", 4, net.channel(0, 0));
        edges.is("held by a head that waits for room", 1, net.channel(0, 1));
        net.routes(2);
        net.fail(0);
        edges.is("on it still", 4, net.channel(0, 0));
        edges.is("held still", 1, net.channel(0, 1));
        edges.is("both arrive", 2, net.run(50));
        edges.is("what did not hold it does not", 1, net.packet(2, 1));
        edges.is("flits that went into it", 7, net.channel(0, 3));
        edges.is("it is free", NONE, net.channel(0, 1));
    }

    private static void failNoSuchLink() {
        edges.says("Promise 6", "IllegalArgumentException, when there is no such link");
        for (int link : new int[] {-1, 4, 5, 39, 40, Integer.MIN_VALUE, Integer.MAX_VALUE}) {
            edges.refused("fail(" + link + ")", Edges.ARGUMENT, Nets::busy, net -> net.fail(link));
        }
        edges.refused("fail(40) of forty", Edges.ARGUMENT, Nets::full, net -> net.fail(40));
        edges.refused("fail(0) without links", Edges.ARGUMENT, () -> Nets.nodes(1, 2), net -> net.fail(0));
        edges.is("the highest", 0, beside().fail(39));
    }

    private static void failTwice() {
        edges.says("Promise 6", "it has failed");
        edges.refused("fail(0) again", Edges.ARGUMENT, EdgeRouteTest::failed, net -> net.fail(0));
        NetRoutes net = beside();
        for (int k = 0; k < 40; k++) {
            int link = k;
            edges.is("fail(" + k + ")", 0, net.fail(k));
            edges.throwing("fail(" + k + ") again", Edges.ARGUMENT, () -> net.fail(link));
        }
    }
}
