/** The boundary cases of the three parts of a cycle, sentence by sentence. */
final class EdgeCycles {
    private static final int NONE = NetRoutes.NONE;

    private final Edges edges;

    private EdgeCycles(Edges edges) {
        this.edges = edges;
    }

    static void all(Edges edges) {
        EdgeCycles cycles = new EdgeCycles(edges);
        cycles.threeParts();
        cycles.askingInOrder();
        cycles.headsAsk();
        cycles.notAtTheEnd();
        cycles.holdsNothing();
        cycles.routeByLinkThatHasNotFailed();
        cycles.channelNotHeld();
        cycles.linkByLink();
        cycles.behindTheLast();
        cycles.fromChannelZero();
        cycles.onAndRound();
        cycles.inputWithFront();
        cycles.room();
        cycles.behindTheOthers();
        cycles.notAgain();
        cycles.freeBehindTail();
        cycles.leavingInOrder();
        cycles.oneFlitAnInput();
        cycles.arrivedBehindTail();
        cycles.wasThere();
        cycles.fromTheQueue();
    }

    private void says(String words) {
        edges.says("Terms", words);
    }

    private void threeParts() {
        says("A CYCLE has three parts.");
        NetRoutes net = Nets.line(2, 1);
        net.send(0, 1, 2);
        net.send(1, 1, 1);
        edges.is("in one cycle one leaves", 1, net.run(1));
        edges.is("a channel is held", 0, net.channel(0, 1));
        edges.is("and a flit moves", 1, net.count(7));
    }

    private void askingInOrder() {
        says("1 ASKING: node by node, input by input");
        NetRoutes net = Nets.nodes(1, 16);
        for (int k = 0; k < 14; k++) {
            net.link(13 - k, 14, 1);
        }
        net.link(14, 15, 1);
        net.routes(15);
        for (int k = 0; k < 14; k++) {
            net.send(k, 15, 1);
        }
        net.run(1);
        net.send(14, 15, 1);
        net.run(50);
        edges.is("the queue of node 14", 3, net.packet(14, 0));
        for (int k = 0; k < 14; k++) {
            edges.is("the buffer of channel " + 4 * k, 4 + k, net.packet(13 - k, 0));
        }
    }

    private void headsAsk() {
        says("when the front is a head");
        NetRoutes net = Nets.line(3, 2);
        net.send(0, 2, 16);
        net.run(2);
        net.route(0, 2, 1);
        net.route(1, 2, 5);
        net.run(50);
        edges.is("what follows a head asks for nothing: channel 1", 0, net.channel(1, 3));
        edges.is("channel 5", 0, net.channel(5, 3));
        edges.is("all go as the head did", 16, net.channel(4, 3));
    }

    private void notAtTheEnd() {
        says("its packet's end is not this node");
        NetRoutes net = Nets.circle(3, 1);
        net.send(0, 1, 1);
        net.send(2, 2, 1);
        net.run(1);
        edges.is("in its queue at its end: holds nothing", NONE, net.channel(8, 1));
        edges.is("nor goes on", 0, net.channel(8, 3));
        net.run(50);
        edges.is("in a buffer at its end: does not go on", 0, net.channel(4, 3));
        edges.is("both arrived", 2, net.count(3));
    }

    private void holdsNothing() {
        says("the input holds nothing");
        NetRoutes net = Nets.line(3, 4);
        net.route(1, 2, NONE);
        net.send(0, 2, 4);
        net.send(0, 2, 1);
        net.run(5);
        edges.is("the head in the queue holds channel 0, which is full", 1, net.channel(0, 1));
        for (int lane = 1; lane < 4; lane++) {
            net.route(0, 2, lane);
            edges.is("stuck", true, net.stuck());
            net.run(2);
            edges.is("it gets no second one", NONE, net.channel(lane, 1));
        }
        edges.is("nor lets the first one go", 1, net.channel(0, 1));
    }

    private void routeByLinkThatHasNotFailed() {
        says("there is a route by a link that has not failed");
        NetRoutes net = Nets.line(2, 1);
        net.link(0, 1, 1);
        net.route(0, 1, NONE);
        net.send(0, 1, 1);
        net.run(5);
        edges.is("no route", NONE, net.channel(0, 1));
        net.route(0, 1, 0);
        net.fail(0);
        net.run(5);
        edges.is("a link that failed", 0, net.channel(0, 3));
        edges.is("it waits", 1, net.packet(0, 1));
        net.routes(1);
        edges.is("another link", 1, net.run(2));
        edges.is("flits by it", 1, net.channel(4, 3));
    }

    private void channelNotHeld() {
        says("its channel is not held: it is held by this input.");
        NetRoutes net = Nets.nodes(1, 4);
        net.link(0, 1, 1);
        net.link(1, 2, 2);
        net.link(2, 3, 1);
        net.routes(3);
        net.routes(2);
        net.send(0, 3, 3);
        net.run(1);
        net.send(1, 2, 3);
        net.run(1);
        edges.is("the queue got it", 1, net.channel(4, 1));
        net.run(1);
        edges.is("the buffer does not", 1, net.channel(4, 1));
        net.run(1);
        edges.is("its tail has gone through it", NONE, net.channel(4, 1));
        net.run(1);
        edges.is("now the buffer gets it", 0, net.channel(4, 1));
    }

    /** Node 2 passes on what comes by links 0 and 1, to ends 4 and 5, by these lanes of link 2, which has so many. */
    private static NetRoutes twoByOneLink(int lanes, int first, int second) {
        NetRoutes net = Nets.nodes(1, 6);
        net.link(0, 2, 1);
        net.link(1, 2, 1);
        net.link(2, 3, lanes);
        net.route(0, 4, 0);
        net.route(1, 5, 4);
        net.route(2, 4, 8 + first);
        net.route(2, 5, 8 + second);
        net.send(0, 4, 4);
        net.send(1, 5, 4);
        net.run(1);
        return net;
    }

    private void linkByLink() {
        says("2 MOVING: link by link");
        NetRoutes net = Nets.full();
        for (int k = 0; k < 16; k++) {
            net.send(k, (k + 1) % 16, 1);
        }
        net.run(1);
        edges.is("each link moves one in a cycle", 16, net.count(7));
        NetRoutes one = twoByOneLink(2, 0, 1);
        int before = one.count(7);
        one.run(1);
        edges.is("links 0 and 1 move one each, and link 2 one of two", 3, one.count(7) - before);
        NetRoutes up = Nets.line(3, 1);
        up.route(1, 2, NONE);
        up.send(0, 2, 5);
        up.run(10);
        up.routes(2);
        up.run(1);
        edges.is("link 0 comes before link 1 has made room", 4, up.channel(0, 3));
        NetRoutes down = Nets.nodes(1, 3);
        down.link(1, 2, 1);
        down.link(0, 1, 1);
        down.routes(2);
        down.route(1, 2, NONE);
        down.send(0, 2, 5);
        down.run(10);
        down.routes(2);
        down.run(1);
        edges.is("link 1 comes when link 0 has made room", 5, down.channel(4, 3));
    }

    private void behindTheLast() {
        says("of its channels, from the one behind that which moved last");
        for (int second = 1; second < 4; second++) {
            NetRoutes net = twoByOneLink(4, 0, second);
            for (int k = 1; k <= 4; k++) {
                net.run(1);
                edges.is("channel 0 first", k, net.channel(8, 3));
                edges.is("channel " + second + " not yet", k - 1, net.channel(8 + second, 3));
                net.run(1);
                edges.is("channel 0 not again", k, net.channel(8, 3));
                edges.is("then channel " + second, k, net.channel(8 + second, 3));
            }
        }
        NetRoutes alone = Nets.line(2, 4);
        alone.send(0, 1, 16);
        alone.run(16);
        edges.is("the same again, when no other one can", 16, alone.channel(0, 3));
    }

    private void fromChannelZero() {
        says("(of the link; from channel 0 on at first)");
        for (int first = 0; first < 4; first++) {
            for (int second = 0; second < 4; second++) {
                if (first != second) {
                    NetRoutes net = twoByOneLink(4, first, second);
                    net.run(1);
                    edges.is("channels " + first + " and " + second + ": the lower", 1, net.channel(8 + Math.min(first, second), 3));
                    edges.is("channels " + first + " and " + second + ": not the higher", 0, net.channel(8 + Math.max(first, second), 3));
                }
            }
        }
        NetRoutes net = twoByOneLink(2, 0, 1);
        net.run(1);
        edges.is("the turn is each link's own: link 2 has moved", 1, net.channel(8, 3));
        net.link(2, 3, 2);
        net.send(2, 3, 1);
        net.route(2, 3, 12);
        net.run(1);
        edges.is("a new link begins with its channel 0", 1, net.channel(12, 3));
    }

    private void onAndRound() {
        says("on and round");
        for (int lanes = 2; lanes <= 4; lanes++) {
            NetRoutes net = Nets.nodes(1, 6);
            net.link(0, 2, 1);
            net.link(1, 2, 1);
            net.link(2, 3, lanes);
            net.route(0, 4, 0);
            net.route(1, 5, 4);
            net.route(2, 4, 8 + lanes - 1);
            net.route(2, 5, 8);
            net.send(0, 4, 4);
            net.run(2);
            edges.is("the last of " + lanes + " has moved", 1, net.channel(8 + lanes - 1, 3));
            net.send(1, 5, 4);
            net.run(1);
            edges.is("it moves again: it is round to itself", 2, net.channel(8 + lanes - 1, 3));
            net.run(1);
            edges.is("behind the last comes channel 0", 1, net.channel(8, 3));
            edges.is("not the last again", 2, net.channel(8 + lanes - 1, 3));
            net.run(1);
            edges.is("then the last", 3, net.channel(8 + lanes - 1, 3));
        }
    }

    /** Two packets share link 0 by two channels, so that each comes to node 1 in every other cycle only. */
    private void inputWithFront() {
        says("the first one that is held by an input that has a front");
        NetRoutes net = Nets.nodes(1, 5);
        net.link(0, 1, 2);
        net.link(1, 2, 2);
        net.link(3, 0, 1);
        net.route(0, 2, 0);
        net.route(0, 4, 1);
        net.route(1, 2, 4);
        net.route(3, 4, 8);
        net.send(3, 4, 4);
        net.run(1);
        net.send(0, 2, 3);
        net.run(2);
        edges.is("held", 1, net.channel(4, 1));
        edges.is("by an input that is empty", 0, net.channel(0, 0));
        int moved = net.channel(4, 3);
        net.send(1, 2, 1);
        net.route(1, 2, 5);
        net.run(1);
        edges.is("nothing by the empty one", moved, net.channel(4, 3));
        edges.is("the next channel's flit goes", 1, net.channel(5, 3));
    }

    private void room() {
        says("with room in the channel's buffer as it is then");
        NetRoutes net = Nets.line(3, 2);
        net.route(1, 2, NONE);
        net.send(0, 2, 6);
        for (int k = 1; k <= 4; k++) {
            net.run(1);
            edges.is("room for " + k, k, net.channel(0, 0));
        }
        net.run(1);
        edges.is("no room for a fifth", 4, net.channel(0, 0));
        NetRoutes leaving = twoFull();
        edges.is("a full channel is passed by, the next one moves", 1, leaving.channel(9, 3));
        NetRoutes end = Nets.line(2, 1);
        end.send(0, 1, 16);
        end.run(1);
        for (int k = 2; k <= 16; k++) {
            end.run(1);
            edges.is("one comes, one leaves", 1, end.channel(0, 0));
        }
    }

    /** Of link 2 channel 8 is full and held, channel 9 gets a packet then. */
    private static NetRoutes twoFull() {
        NetRoutes net = Nets.nodes(1, 6);
        net.link(0, 2, 1);
        net.link(1, 2, 1);
        net.link(2, 3, 2);
        net.route(0, 4, 0);
        net.route(1, 5, 4);
        net.route(2, 4, 8);
        net.route(2, 5, 9);
        net.send(0, 4, 8);
        net.run(20);
        net.send(1, 5, 1);
        net.run(2);
        return net;
    }

    private void behindTheOthers() {
        says("this flit goes there, behind the others");
        NetRoutes net = Nets.line(3, 1);
        net.route(1, 2, NONE);
        for (int k = 0; k < 4; k++) {
            net.send(0, 2, 1);
            net.run(3);
            edges.is("the first one stays in front", 0, net.channel(0, 2));
        }
        net.routes(2);
        net.run(20);
        for (int k = 0; k < 4; k++) {
            edges.is("they arrive as they came", 14 + k, net.packet(k, 0));
        }
    }

    private void notAgain() {
        says("it does not move again, and is not a front, before the next cycle");
        NetRoutes net = Nets.line(16, 1);
        net.send(0, 15, 1);
        for (int k = 1; k <= 15; k++) {
            net.run(1);
            edges.is("one link in a cycle", k, net.count(7));
            edges.is("here it is", 0, net.channel(4 * (k - 1), 2));
            edges.is("it asks for nothing yet", NONE, k < 15 ? net.channel(4 * k, 1) : NONE);
        }
        edges.is("it did not leave when it came", 0, net.count(8));
        edges.is("but in the next cycle", 1, net.run(1));
        NetRoutes follows = Nets.line(3, 1);
        follows.send(0, 2, 3);
        follows.run(2);
        edges.is("by two links at once, one flit each", 3, follows.count(7));
        edges.is("what came behind did not follow at once", 1, follows.channel(0, 0));
    }

    private void freeBehindTail() {
        says("behind a tail the channel is free.");
        NetRoutes net = Nets.line(2, 1);
        net.send(0, 1, 2);
        net.send(0, 1, 2);
        int[] holder = {0, NONE, 1, NONE};
        for (int packet : holder) {
            net.run(1);
            edges.is("held by", packet, net.channel(0, 1));
        }
        edges.is("no cycle was lost", 4, net.channel(0, 3));
    }

    private void leavingInOrder() {
        says("3 LEAVING: node by node, input by input");
        NetRoutes net = Nets.circle(16, 4);
        for (int k = 0; k < 16; k++) {
            net.send(k, (k + 1) % 16, 1);
        }
        net.run(1);
        for (int k = 0; k < 16; k++) {
            net.send(k, k, 1);
        }
        edges.is("of each node the queue and a buffer", 32, net.run(1));
        edges.is("moves", 16, net.count(7));
    }

    private void oneFlitAnInput() {
        says("a front whose packet's end is this node leaves the net (one flit an input)");
        NetRoutes net = Nets.nodes(1, 2);
        net.send(0, 0, 16);
        net.send(0, 0, 1);
        for (int k = 1; k <= 16; k++) {
            net.run(1);
            edges.is("one in a cycle", k, net.count(8));
        }
        edges.is("then that of the next packet", 1, net.run(1));
        NetRoutes other = Nets.line(3, 1);
        other.route(1, 2, NONE);
        other.send(0, 2, 1);
        other.send(0, 1, 1);
        other.run(20);
        edges.is("behind one that goes elsewhere none leaves", 0, other.count(8));
        edges.is("both are in the buffer", 2, other.channel(0, 0));
        other.routes(2);
        other.run(1);
        edges.is("when that has moved on, it leaves", 1, other.count(8));
    }

    private void arrivedBehindTail() {
        says("behind its tail the packet has ARRIVED in this cycle.");
        for (int flits = 1; flits <= 16; flits++) {
            NetRoutes net = Nets.line(2, 1);
            net.send(0, 1, flits);
            net.run(flits);
            edges.is("not yet", 0, net.packet(0, 0));
            edges.is("flits that left", flits - 1, net.packet(0, 3));
            edges.is("arrived", 1, net.run(1));
            edges.is("in cycle", flits + 1, net.packet(0, 0));
        }
    }

    private void wasThere() {
        says("(A front is a flit that was there when the cycle began.");
        NetRoutes net = Nets.line(2, 1);
        net.send(0, 1, 1);
        net.send(0, 0, 1);
        edges.is("behind a tail that moved one leaves in the same cycle", 1, net.run(1));
        edges.is("packet 1", 1, net.packet(1, 0));
        edges.is("what came in this cycle does not", 0, net.packet(0, 0));
        NetRoutes buffer = Nets.line(3, 1);
        buffer.route(1, 2, NONE);
        buffer.send(0, 2, 1);
        buffer.run(1);
        buffer.send(0, 1, 1);
        buffer.routes(2);
        buffer.run(1);
        edges.is("alone in a buffer, but came in this cycle", 0, buffer.packet(1, 3));
        edges.is("it is there", 1, buffer.channel(0, 2));
        edges.is("it leaves in the next", 2, buffer.run(1));
    }

    private void fromTheQueue() {
        says("Packets with their node as end leave from the queue.)");
        NetRoutes net = Nets.full();
        for (int k = 0; k < 16; k++) {
            net.send(k, k, 16);
        }
        edges.is("run(15)", 0, net.run(15));
        edges.is("run(1)", 16, net.run(1));
        edges.is("none moved", 0, net.count(7));
        edges.is("all left", 256, net.count(8));
    }
}
