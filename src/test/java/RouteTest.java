/** Promises 4 (route), 5 (routes), 6 (fail), and the pairs without a way of 15. */
final class RouteTest {
    private static final int NONE = NetRoutes.NONE;
    private static final Due due = new Due();

    public static void main(String[] args) {
        setAndClear();
        routeRefusals();
        routeLeavesHoldersAlone();
        shortest();
        lowestLink();
        routesReplacesAll();
        routesTakesWhatLeadsNowhere();
        routesRefusals();
        failTakesRoutes();
        failLeavesFlitsAlone();
        pairsWithoutWay();
        due.end();
    }

    private static void setAndClear() {
        NetRoutes net = Nets.nodes(1, 3);
        net.link(0, 1, 4);
        net.link(0, 2, 2);
        due.is("first route", NONE, net.route(0, 1, 3));
        due.is("another channel", 3, net.route(0, 1, 0));
        due.is("by another node", 0, net.route(0, 1, 5));
        due.is("to another end", NONE, net.route(0, 2, 5));
        due.is("none any more", 5, net.route(0, 1, NONE));
        due.is("none twice", NONE, net.route(0, 1, NONE));
        due.is("the other end's is still there", 5, net.route(0, 2, NONE));
        due.is("at a node without links", NONE, net.route(2, 0, NONE));
    }

    private static void routeRefusals() {
        NetRoutes net = Nets.nodes(1, 3);
        net.link(0, 1, 2);
        net.link(1, 2, 4);
        net.link(0, 2, 1);
        net.fail(2);
        net.route(0, 1, 1);
        int[][] wrong = {{-1, 1, 0}, {3, 1, 0}, {0, -1, 0}, {0, 3, 0}, {0, 0, 0}, {0, 0, NONE}, {3, 3, NONE},
            {0, -1, NONE}, {0, 1, 2}, {0, 1, 3}, {0, 1, 4}, {1, 2, 0}, {0, 1, 8}, {0, 1, 12}, {0, 1, -2}, {0, 1, -4},
            {0, 1, Integer.MIN_VALUE}, {0, 1, Integer.MAX_VALUE}, {0, 1, 160}, {2, 0, 0}};
        for (int[] w : wrong) {
            due.throwing("route(" + w[0] + ", " + w[1] + ", " + w[2] + ")", IllegalArgumentException.class,
                () -> net.route(w[0], w[1], w[2]));
        }
        due.is("the route stayed", 1, net.route(0, 1, 1));
    }

    private static void routeLeavesHoldersAlone() {
        NetRoutes net = Nets.line(2, 2);
        net.send(0, 1, 3);
        net.run(1);
        due.is("route away", 0, net.route(0, 1, NONE));
        due.is("held still", 0, net.channel(0, 1));
        net.send(0, 1, 1);
        due.is("the first packet goes on", 1, net.run(10));
        due.is("and arrives", 4, net.packet(0, 0));
        due.is("the second one waits", 1, net.packet(1, 1));
        net.route(0, 1, 1);
        due.is("until there is a route", 1, net.run(2));
        due.is("by the other channel", 1, net.channel(1, 3));
    }

    private static void shortest() {
        NetRoutes net = Nets.nodes(1, 5);
        net.link(0, 1, 1);
        net.link(1, 2, 1);
        net.link(2, 3, 1);
        net.link(0, 3, 3);
        net.link(3, 0, 1);
        due.is("routes(3)", 3, net.routes(3));
        due.is("0 goes straight, by channel 0 of link 3", 12, net.route(0, 3, NONE));
        due.is("1 goes by 2", 4, net.route(1, 3, NONE));
        due.is("2 goes straight", 8, net.route(2, 3, NONE));
        due.is("4 does not come there", NONE, net.route(4, 3, NONE));
        due.is("routes(4)", 0, net.routes(4));
        due.is("routes(0)", 3, net.routes(0));
        due.is("links are one way", 8, net.route(2, 0, NONE));
        net.link(4, 0, 1);
        due.is("routes(3) with one more", 4, net.routes(3));
    }

    private static void lowestLink() {
        NetRoutes net = Nets.nodes(1, 4);
        net.link(2, 3, 1);
        net.link(0, 2, 1);
        net.link(0, 1, 1);
        net.link(1, 3, 1);
        net.link(0, 1, 1);
        due.is("routes(3)", 3, net.routes(3));
        due.is("of two ways the one by the lower link", 4, net.route(0, 3, NONE));
        net.fail(1);
        due.is("routes(3) anew", 3, net.routes(3));
        due.is("then by the next", 8, net.route(0, 3, NONE));
        net.fail(2);
        net.routes(3);
        due.is("then by the one beside it", 16, net.route(0, 3, NONE));
        net.fail(4);
        due.is("then 0 has none", 2, net.routes(3));
        due.is("none at 0", NONE, net.route(0, 3, NONE));
    }

    private static void routesReplacesAll() {
        NetRoutes net = Nets.nodes(1, 3);
        net.link(0, 1, 2);
        net.link(0, 2, 1);
        net.link(1, 2, 1);
        net.route(0, 1, 4);
        net.route(0, 2, 1);
        due.is("routes(1)", 1, net.routes(1));
        due.is("the longer one is gone", 0, net.route(0, 1, 0));
        due.is("ends but this one keep theirs", 1, net.route(0, 2, 1));
    }

    /** Nodes 0 and 1 have links and old routes, but no way to 2. */
    private static void routesTakesWhatLeadsNowhere() {
        NetRoutes net = Nets.nodes(1, 3);
        net.link(0, 1, 1);
        net.link(1, 0, 1);
        net.route(0, 2, 0);
        net.route(1, 2, 4);
        due.is("routes(2)", 0, net.routes(2));
        due.is("none at 0", NONE, net.route(0, 2, NONE));
        due.is("none at 1", NONE, net.route(1, 2, NONE));
    }

    private static void routesRefusals() {
        NetRoutes net = Nets.nodes(1, 2);
        for (int to : new int[] {-1, 2, 16, Integer.MIN_VALUE, Integer.MAX_VALUE}) {
            due.throwing("routes(" + to + ")", IllegalArgumentException.class, () -> net.routes(to));
        }
        due.is("routes(1) without links", 0, net.routes(1));
    }

    private static void failTakesRoutes() {
        NetRoutes net = Nets.line(4, 4);
        net.route(0, 3, 3);
        due.is("all by link 1", 2, net.fail(1));
        due.throwing("fail again", IllegalArgumentException.class, () -> net.fail(1));
        due.is("its route is gone", NONE, net.route(1, 3, NONE));
        due.is("others are there", 3, net.route(0, 3, 3));
        due.is("of link 0 all channels count", 3, net.fail(0));
        due.is("a link without routes", 0, Nets.withAllRoutes(addLink(net)).fail(3));
        for (int link : new int[] {-1, 0, 1, 3, 4, 40, Integer.MIN_VALUE, Integer.MAX_VALUE}) {
            due.throwing("fail(" + link + ")", IllegalArgumentException.class, () -> net.fail(link));
        }
        due.is("links that failed are links", 4, net.count(1));
        due.is("and have channels", 0, net.channel(0, 0));
    }

    private static NetRoutes addLink(NetRoutes net) {
        net.link(2, 3, 1);
        return net;
    }

    private static void failLeavesFlitsAlone() {
        NetRoutes net = Nets.line(3, 1);
        net.send(0, 2, 6);
        net.send(0, 2, 1);
        net.run(2);
        due.is("routes by link 0", 2, net.fail(0));
        due.is("routes by link 1", 1, net.fail(1));
        due.is("the packet that holds goes on", 1, net.run(20));
        due.is("and arrives as if nothing were", 8, net.packet(0, 0));
        due.is("the one behind does not", 1, net.packet(1, 1));
        due.is("and is stuck", true, net.stuck());
    }

    private static void pairsWithoutWay() {
        NetRoutes net = Nets.nodes(1, 4);
        due.is("no links", 12, net.count(9));
        net.link(0, 1, 1);
        net.link(1, 2, 2);
        net.link(2, 0, 1);
        due.is("no routes", 12, net.count(9));
        Nets.withAllRoutes(net);
        due.is("3 stands alone", 6, net.count(9));
        net.link(2, 1, 1);
        net.link(2, 3, 1);
        net.routes(3);
        due.is("to 3 all come", 3, net.count(9));
        net.route(2, 3, 12);
        due.is("2 and 1 send round: from 0 too", 6, net.count(9));
        net.route(1, 3, NONE);
        due.is("without a route it is the same", 6, net.count(9));
        net.route(2, 3, 16);
        due.is("2 has its way again", 5, net.count(9));
        NetRoutes longest = Nets.line(16, 1);
        due.is("the longest way counts", 120, longest.count(9));
    }
}
