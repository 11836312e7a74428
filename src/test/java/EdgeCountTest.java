/** The boundary cases that promises 14 (stuck) and 15 (count) name, sentence by sentence. */
final class EdgeCountTest {
    private static final int NONE = NetRoutes.NONE;
    private static final Edges edges = new Edges("Promise 14", "Promise 15");

    public static void main(String[] args) {
        isStuck();
        someFlits();
        moveNone();
        letNoneLeave();
        holdNoMore();
        nodes();
        links();
        packets();
        arrived();
        cycles();
        flitsInQueues();
        flitsInBuffers();
        moved();
        left();
        pairsWithoutWay();
        another();
        edges.end();
    }

    private static void isStuck() {
        edges.says("Promise 14", "Whether the net is STUCK");
        for (int many = 3; many <= 16; many++) {
            NetRoutes net = Nets.circle(many, 1);
            for (int k = 0; k < many; k++) {
                net.send(k, (k + many - 1) % many, 16);
            }
            edges.is("a circle of " + many + " before", false, net.stuck());
            edges.is("arrived", 0, net.run(2000));
            edges.is("a circle of " + many + ", all buffers full", true, net.stuck());
            edges.is("asked again", true, net.stuck());
            edges.is("full buffers", 4 * many, net.count(6));
        }
    }

    private static void someFlits() {
        edges.says("Promise 14", "some flits are in it");
        edges.is("a new net", false, new NetRoutes(1).stuck());
        NetRoutes net = Nets.nodes(1, 2);
        edges.is("no packets", false, net.stuck());
        net.send(0, 1, 1);
        edges.is("one flit in a queue, without a link", true, net.stuck());
        NetRoutes line = Nets.line(2, 1);
        line.send(0, 1, 1);
        line.run(2);
        edges.is("when all have arrived", false, line.stuck());
        line.route(0, 1, NONE);
        line.send(0, 1, 1);
        edges.is("when one of two has not", true, line.stuck());
        NetRoutes buffer = Nets.line(3, 1);
        buffer.route(1, 2, NONE);
        buffer.send(0, 2, 1);
        buffer.run(1);
        edges.is("flits in queues", 0, buffer.count(5));
        edges.is("one flit in a buffer", true, buffer.stuck());
    }

    private static void moveNone() {
        edges.says("Promise 14", "a cycle would move none");
        NetRoutes net = Nets.line(3, 1);
        net.route(1, 2, NONE);
        net.send(0, 2, 5);
        for (int k = 1; k <= 4; k++) {
            edges.is("with room for " + (5 - k), false, net.stuck());
            net.run(1);
        }
        edges.is("without room", true, net.stuck());
        edges.is("it is held already", 0, net.channel(0, 1));
        net.run(2000);
        edges.is("and stays so", true, net.stuck());
        edges.is("moved", 4, net.count(7));
    }

    private static void letNoneLeave() {
        edges.says("Promise 14", "let none leave");
        NetRoutes net = Nets.nodes(1, 2);
        net.send(0, 1, 1);
        net.send(1, 1, 2);
        edges.is("two can leave from a queue", false, net.stuck());
        net.run(1);
        edges.is("one can leave from a queue", false, net.stuck());
        net.run(1);
        edges.is("none can", true, net.stuck());
        net.send(0, 0, 1);
        edges.is("not from behind another one", true, net.stuck());
        NetRoutes line = Nets.line(2, 1);
        line.send(0, 1, 1);
        line.send(1, 0, 1);
        line.run(1);
        edges.is("one can leave from a buffer", false, line.stuck());
        line.run(1);
        edges.is("none can", true, line.stuck());
    }

    private static void holdNoMore() {
        edges.says("Promise 14", "let no input hold more");
        NetRoutes net = Nets.line(3, 1);
        net.route(1, 2, NONE);
        net.send(0, 2, 4);
        net.send(0, 2, 1);
        net.run(4);
        edges.is("full, and free", NONE, net.channel(0, 1));
        edges.is("the next packet would hold it", false, net.stuck());
        int moved = net.count(7);
        net.run(1);
        edges.is("which moves none", moved, net.count(7));
        edges.is("when it holds it", true, net.stuck());
        net.fail(0);
        edges.is("when the link has failed", true, net.stuck());
        NetRoutes failed = Nets.line(2, 1);
        failed.send(0, 1, 1);
        failed.fail(0);
        edges.is("no route: nothing can be held", true, failed.stuck());
        NetRoutes full = Nets.full();
        full.send(15, 7, 16);
        edges.is("with all nodes and links", false, full.stuck());
        full.route(15, 7, NONE);
        edges.is("with all nodes and links, without a route", true, full.stuck());
    }

    private static void nodes() {
        edges.says("Promise 15", "Nodes (0)");
        edges.is("none", 0, new NetRoutes(1).count(0));
        edges.is("one", 1, Nets.nodes(1, 1).count(0));
        NetRoutes net = Nets.nodes(1, 16);
        edges.throwing("one too many", Edges.LIMIT, net::node);
        edges.is("sixteen", 16, net.count(0));
    }

    private static void links() {
        edges.says("Promise 15", "links (1)");
        edges.is("none", 0, Nets.nodes(1, 2).count(1));
        NetRoutes net = Nets.full();
        edges.throwing("one too many", Edges.LIMIT, () -> net.link(0, 1, 1));
        edges.is("forty", 40, net.count(1));
        net.fail(0);
        edges.is("those that failed too", 40, net.count(1));
    }

    private static void packets() {
        edges.says("Promise 15", "packets (2)");
        NetRoutes net = Nets.nodes(1, 2);
        edges.is("none", 0, net.count(2));
        net.send(0, 0, 16);
        edges.is("one", 1, net.count(2));
        for (int k = 0; k < 7; k++) {
            net.load(50);
        }
        net.load(49);
        edges.throwing("one too many", Edges.LIMIT, () -> net.send(0, 0, 1));
        net.run(2000);
        edges.is("400, those that arrived too", 400, net.count(2));
    }

    private static void arrived() {
        edges.says("Promise 15", "arrived (3)");
        NetRoutes net = Nets.line(2, 1);
        net.send(0, 1, 2);
        net.run(2);
        edges.is("none before the tail has left", 0, net.count(3));
        net.run(1);
        edges.is("one", 1, net.count(3));
        NetRoutes all = Nets.loaded(Nets.nodes(1, 1));
        all.run(2000);
        all.run(2000);
        edges.is("all", 400, all.count(3));
    }

    private static void cycles() {
        edges.says("Promise 15", "cycles (4)");
        NetRoutes net = Nets.busy();
        edges.is("three", 3, net.count(4));
        for (int k = 1; k <= 100; k++) {
            net.run(2000);
            edges.is("2000 more each time", 3 + 2000 * k, net.count(4));
        }
    }

    private static void flitsInQueues() {
        edges.says("Promise 15", "flits in queues (5)");
        NetRoutes net = Nets.line(3, 1);
        net.route(1, 2, NONE);
        edges.is("none", 0, net.count(5));
        net.send(0, 2, 16);
        net.send(1, 2, 16);
        net.send(2, 2, 16);
        edges.is("all", 48, net.count(5));
        net.run(1);
        edges.is("one moved, one left", 46, net.count(5));
        net.run(100);
        edges.is("as many as have no room, or no route", 12 + 16, net.count(5));
        edges.is("the most there can be", 6400, sixteenFlitsEach().count(5));
    }

    private static NetRoutes sixteenFlitsEach() {
        NetRoutes net = Nets.nodes(1, 2);
        for (int k = 0; k < 400; k++) {
            net.send(0, 1, 16);
        }
        return net;
    }

    private static void flitsInBuffers() {
        edges.says("Promise 15", "in buffers (6)");
        NetRoutes net = Nets.line(6, 4);
        net.route(4, 5, NONE);
        edges.is("none", 0, net.count(6));
        net.send(0, 5, 16);
        net.send(0, 5, 16);
        net.run(100);
        edges.is("four buffers full", 16, net.count(6));
        net.routes(5);
        net.run(100);
        edges.is("none again", 0, net.count(6));
    }

    private static void moved() {
        edges.says("Promise 15", "moved so far (7)");
        NetRoutes net = Nets.line(16, 1);
        net.send(3, 3, 16);
        net.run(100);
        edges.is("none: what leaves from its queue does not move", 0, net.count(7));
        net.send(0, 15, 16);
        net.run(100);
        edges.is("16 flits by fifteen links", 240, net.count(7));
        net.run(100);
        edges.is("no more", 240, net.count(7));
    }

    private static void left() {
        edges.says("Promise 15", "left so far (8)");
        NetRoutes net = Nets.line(2, 1);
        edges.is("none", 0, net.count(8));
        net.send(0, 1, 16);
        net.send(1, 1, 16);
        net.run(1);
        edges.is("one from a queue", 1, net.count(8));
        net.run(1);
        edges.is("one more from a queue, one from a buffer", 3, net.count(8));
        net.run(100);
        edges.is("all", 32, net.count(8));
    }

    private static void pairsWithoutWay() {
        edges.says("Promise 15", "pairs of different nodes without a way by routes (9; a way that goes round is none)");
        edges.is("no nodes", 0, new NetRoutes(1).count(9));
        edges.is("one node", 0, Nets.nodes(1, 1).count(9));
        edges.is("two nodes", 2, Nets.nodes(1, 2).count(9));
        edges.is("sixteen nodes", 240, Nets.nodes(1, 16).count(9));
        edges.is("all have one, the longest by fifteen links", 0, Nets.circle(16, 1).count(9));
        NetRoutes net = Nets.circle(16, 1);
        net.route(15, 14, NONE);
        edges.is("from 15 there is none to 14", 1, net.count(9));
        net.route(15, 13, NONE);
        edges.is("from 15 and 14 there is none to 13", 1 + 2, net.count(9));
        NetRoutes round = Nets.nodes(1, 4);
        round.link(0, 1, 1);
        round.link(1, 0, 1);
        round.link(1, 2, 1);
        round.route(0, 2, 0);
        round.route(1, 2, 8);
        edges.is("0 and 1 have a way to 2", 10, round.count(9));
        round.route(1, 2, 4);
        edges.is("0 and 1 send round what is for 2", 12, round.count(9));
        round.route(1, 0, 4);
        edges.is("which is a way to 0", 11, round.count(9));
        NetRoutes link = Nets.nodes(1, 2);
        link.link(0, 1, 1);
        edges.is("a link without a route is no way", 2, link.count(9));
        link.route(0, 1, 0);
        edges.is("one way only", 1, link.count(9));
        link.fail(0);
        edges.is("nor is one that failed", 2, link.count(9));
    }

    private static void another() {
        edges.says("Promise 15", "NONE for another what");
        for (int what : new int[] {-1, 10, 11, 16, 99, Integer.MIN_VALUE, Integer.MAX_VALUE}) {
            edges.is("count(" + what + ")", NONE, Nets.busy().count(what));
            edges.is("count(" + what + ") of a new net", NONE, new NetRoutes(1).count(what));
        }
        edges.is("count(9) is the last that is none of these", 0, Nets.busy().count(9));
    }
}
