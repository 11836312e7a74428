/** The boundary cases that the terms name, sentence by sentence; those of the cycle stand in EdgeCycles. */
final class EdgeTermsTest {
    private static final int NONE = NetRoutes.NONE;
    private static final Edges edges = new Edges("What it is", "Terms");

    public static void main(String[] args) {
        whatItIs();
        calls();
        nodes();
        links();
        buffers();
        channelNumbers();
        route();
        packets();
        queue();
        inputs();
        holding();
        EdgeCycles.all(edges);
        graph();
        anotherNodeThanTheEnd();
        ring();
        firstToldException();
        none();
        edges.end();
    }

    private static void whatItIs() {
        edges.says("What it is", "A net of nodes and links with several channels each: packets go as rows of flits by tables of"
            + " routes, hold channels until their last flit has passed, wait for room; rings in which channels wait for one another"
            + " are found, routes are made anew when links fail.");
        NetRoutes net = Nets.circle(3, 2);
        net.link(0, 2, 1);
        for (int k = 0; k < 3; k++) {
            net.send(k, (k + 2) % 3, 16);
        }
        edges.is("run(2000)", 0, net.run(2000));
        edges.is("stuck", true, net.stuck());
        edges.is("ring", 3, net.ring());
        net.fail(1);
        edges.is("routes(2)", 1, net.routes(2));
        edges.is("by the link from 0 to 2", 12, net.route(0, 2, 12));
        edges.is("no ring", 0, net.ring());
    }

    private static void calls() {
        edges.says("What it is", "An object is used for at most 512 calls after it has been made; what later calls answer is free.");
        NetRoutes net = Nets.nodes(1, 3);
        net.link(0, 1, 1);
        net.link(1, 0, 1);
        net.route(0, 2, 0);
        net.route(1, 2, 4);
        net.send(0, 2, 1);
        for (int call = 9; call <= 508; call++) {
            edges.is("call " + call + ": run(2000)", 0, net.run(2000));
        }
        edges.is("call 509: cycles", 1000000, net.count(4));
        edges.is("call 510: moved", 1000000, net.count(7));
        edges.is("call 511: flits into channel 4", 500000, net.channel(4, 3));
        edges.is("call 512: stuck", false, net.stuck());
    }

    private static void nodes() {
        edges.says("Terms", "NODES 0 .. 15.");
        NetRoutes net = Nets.full();
        for (int node : new int[] {0, 15}) {
            edges.is("packets from it", true, net.send(node, node, 1) >= 0);
            edges.is("routes to it", 15, net.routes(node));
        }
        for (int node : new int[] {-1, 16}) {
            edges.throwing("packets from " + node, Edges.ARGUMENT, () -> net.send(node, 0, 1));
            edges.throwing("routes to " + node, Edges.ARGUMENT, () -> net.routes(node));
        }
        edges.is("both leave", 2, net.run(1));
    }

    private static void links() {
        edges.says("Terms", "LINKS go from one node to another one, one way, with 1 to 4 CHANNELS");
        for (int channels = 1; channels <= 4; channels++) {
            NetRoutes net = Nets.line(2, channels);
            edges.is("there", 1, net.routes(1));
            edges.is("not back", 0, net.routes(0));
            edges.is("by its last channel", 0, net.route(0, 1, channels - 1));
            net.send(0, 1, 1);
            edges.is("arrived", 1, net.run(2));
            edges.is("flits by its last channel", 1, net.channel(channels - 1, 3));
        }
    }

    private static void buffers() {
        edges.says("Terms", "each channel has, where the link ends, a BUFFER of 4 flits.");
        NetRoutes net = Nets.line(3, 4);
        net.route(1, 2, NONE);
        for (int lane = 0; lane < 4; lane++) {
            net.route(0, 2, lane);
            net.send(0, 2, 4);
            net.run(50);
            edges.is("channel " + lane, 4, net.channel(lane, 0));
            edges.is("flits that wait", 0, net.count(5));
        }
        edges.is("four for each", 16, net.count(6));
        net.send(0, 2, 1);
        net.run(50);
        edges.is("a fifth one has no room", 4, net.channel(3, 0));
        edges.is("it waits", 1, net.count(5));
        net.route(1, 2, 4);
        net.run(1);
        edges.is("they are where the link ends: one goes on from there", 1, net.channel(4, 3));
        lastBuffer();
    }

    /** Packets from 14 to 0 go by channel 159, the last of all, to 15, where their way is shut at first. */
    private static void lastBuffer() {
        NetRoutes net = Nets.nodes(1, 16);
        for (int k = 0; k < 38; k++) {
            net.link(0, 1, 4);
        }
        net.link(15, 0, 4);
        net.link(14, 15, 4);
        net.route(14, 0, 159);
        net.send(14, 0, 3);
        net.send(14, 0, 3);
        net.run(50);
        edges.is("the last buffer of all", 4, net.channel(159, 0));
        edges.is("stuck", true, net.stuck());
        net.route(15, 0, 155);
        edges.is("not stuck", false, net.stuck());
        edges.is("arrived", 2, net.run(50));
        edges.is("flits by it", 6, net.channel(159, 3));
        edges.is("flits by the one before it", 6, net.channel(155, 3));
    }

    private static void channelNumbers() {
        edges.says("Terms", "Channels are numbered 4 * link + channel.");
        NetRoutes net = Nets.nodes(1, 2);
        for (int link = 0; link < 40; link++) {
            net.link(0, 1, 1 + link % 4);
        }
        for (int channel = 0; channel < 160; channel++) {
            int number = channel;
            if (channel % 4 <= channel / 4 % 4) {
                edges.is("channel " + channel, 0, net.channel(channel, 3));
            } else {
                edges.throwing("channel " + channel + " of a link with fewer", Edges.INDEX, () -> net.channel(number, 3));
            }
        }
        for (int channel : new int[] {0, 4, 5, 15, 156, 159}) {
            net.route(0, 1, channel);
            net.send(0, 1, 3);
            edges.is("by this channel", 1, net.run(4));
            edges.is("flits by it", 3, net.channel(channel, 3));
        }
    }

    private static void route() {
        edges.says("Terms", "A ROUTE says, at a node, for packets to another one, which channel (of a link that begins there) they take.");
        NetRoutes net = Nets.nodes(1, 3);
        net.link(0, 1, 2);
        net.link(0, 2, 2);
        net.link(1, 2, 2);
        net.route(0, 1, 1);
        net.route(0, 2, 0);
        net.route(1, 2, 9);
        net.send(0, 1, 2);
        net.send(0, 2, 3);
        edges.is("arrived", 2, net.run(50));
        int[] flits = {3, 2, 0, 0, 0, 0, 0, 0, 0, 3};
        for (int c : new int[] {0, 1, 4, 5, 8, 9}) {
            edges.is("flits by channel " + c, flits[c], net.channel(c, 3));
        }
        edges.throwing("a link that ends there", Edges.ARGUMENT, () -> net.route(1, 0, 0));
    }

    private static void packets() {
        edges.says("Terms", "PACKETS have 1 to 16 FLITS, the first one is their HEAD, the last one their TAIL (perhaps the same).");
        NetRoutes one = Nets.line(2, 1);
        one.send(0, 1, 1);
        one.send(0, 1, 1);
        one.run(1);
        edges.is("head and tail in one: free at once", NONE, one.channel(0, 1));
        edges.is("one each cycle", 1, one.run(1));
        edges.is("one each cycle", 1, one.run(1));
        NetRoutes most = Nets.line(2, 1);
        most.send(0, 1, 16);
        for (int k = 1; k <= 15; k++) {
            most.run(1);
            edges.is("held by its head up to its tail", 0, most.channel(0, 1));
        }
        most.run(1);
        edges.is("free behind its tail", NONE, most.channel(0, 1));
        edges.is("arrived", 1, most.run(1));
        edges.throwing("0 flits", Edges.ARGUMENT, () -> most.send(0, 1, 0));
        edges.throwing("17 flits", Edges.ARGUMENT, () -> most.send(0, 1, 17));
    }

    private static void queue() {
        edges.says("Terms", "They wait at their node in its QUEUE, one behind the other.");
        NetRoutes net = Nets.line(2, 1);
        net.send(0, 1, 2);
        net.send(1, 0, 1);
        net.send(0, 0, 2);
        net.send(1, 1, 1);
        net.send(0, 1, 1);
        net.run(1);
        edges.is("packet 2 waits behind packet 0", 2, net.packet(2, 1));
        edges.is("packet 3 waits behind packet 1", 1, net.packet(3, 1));
        net.run(100);
        edges.is("packet 1 has no way", 0, net.packet(1, 0));
        edges.is("so packet 3 waits for ever", 0, net.packet(3, 0));
        edges.is("packet 0 first", 3, net.packet(0, 0));
        edges.is("then packet 2", 3, net.packet(2, 0));
        edges.is("then packet 4", 5, net.packet(4, 0));
        NetRoutes emptied = Nets.line(2, 1);
        for (int k = 0; k < 5; k++) {
            emptied.send(0, 1, 1);
            edges.is("a queue that was empty", 1, emptied.run(5));
        }
    }

    private static void inputs() {
        edges.says("Terms", "INPUTS of a node are its queue, then the buffers of channels that end there, by their numbers; each has"
            + " its flits in order, the FRONT first.");
        NetRoutes net = Nets.nodes(1, 5);
        net.link(2, 3, 1);
        net.link(1, 3, 1);
        net.link(0, 3, 1);
        net.link(3, 4, 1);
        net.routes(4);
        for (int k = 0; k < 3; k++) {
            net.send(k, 4, 1);
        }
        net.run(1);
        net.send(3, 4, 1);
        net.run(10);
        edges.is("the queue first", 3, net.packet(3, 0));
        edges.is("then the buffer of channel 0", 4, net.packet(2, 0));
        edges.is("then that of channel 4", 5, net.packet(1, 0));
        edges.is("then that of channel 8", 6, net.packet(0, 0));
        NetRoutes line = Nets.line(3, 1);
        line.route(1, 2, NONE);
        for (int k = 0; k < 4; k++) {
            line.send(0, 2, 1);
        }
        line.run(10);
        line.routes(2);
        for (int k = 0; k < 4; k++) {
            edges.is("in order", k, line.channel(0, 2));
            line.run(1);
        }
        edges.is("empty", NONE, line.channel(0, 2));
    }

    private static void holding() {
        edges.says("Terms", "An input HOLDS a channel from when its packet's head got it until its tail has gone through it; a channel"
            + " is held by one input at most.");
        NetRoutes net = Nets.nodes(1, 4);
        net.link(0, 2, 1);
        net.link(1, 2, 1);
        net.link(2, 3, 2);
        net.routes(3);
        net.send(0, 3, 6);
        net.send(1, 3, 6);
        net.run(2);
        for (int k = 0; k < 5; k++) {
            edges.is("held by packet 0", 0, net.channel(8, 1));
            edges.is("not by the other, nor one beside it", NONE, net.channel(9, 1));
            net.run(1);
        }
        edges.is("free behind its tail", NONE, net.channel(8, 1));
        net.run(1);
        edges.is("then held by packet 1", 1, net.channel(8, 1));
        edges.is("packet 0 has arrived", 8, net.packet(0, 0));
        edges.is("then packet 1", 1, net.run(20));
        edges.is("packet 1 six cycles later", 6, net.packet(1, 0) - net.packet(0, 0));
    }

    private static void graph() {
        edges.says("Terms", "THE CHANNEL GRAPH: channel c leads to d, if for some end e there is a node whose route to e is c");
        NetRoutes net = Nets.nodes(1, 4);
        net.link(0, 1, 2);
        net.link(1, 0, 2);
        net.route(0, 2, 0);
        net.route(1, 3, 4);
        edges.is("routes to different ends", 0, net.ring());
        net.route(1, 2, 5);
        edges.is("a ring by end 2", 2, net.ring());
        edges.is("by the channel of this route", 5, net.ringAt(1));
        net.route(0, 2, 1);
        edges.is("by that of the other route", 1, net.ringAt(0));
        net.route(0, 2, NONE);
        net.route(0, 3, 0);
        edges.is("some end: by end 3", 4, net.ringAt(1));
        NetRoutes highest = Nets.nodes(1, 16);
        highest.link(14, 15, 1);
        highest.link(15, 14, 1);
        highest.route(14, 0, 0);
        highest.route(15, 0, 4);
        edges.is("by end 0", 2, highest.ring());
        edges.is("its second", 4, highest.ringAt(1));
    }

    private static void anotherNodeThanTheEnd() {
        edges.says("Terms", "c ends at another node than e, whose route to e is d.");
        NetRoutes net = Nets.nodes(1, 2);
        net.link(0, 1, 1);
        net.link(1, 0, 1);
        net.route(0, 1, 0);
        net.route(1, 0, 4);
        edges.is("each ends at its end: none leads on", 0, net.ring());
        NetRoutes three = Nets.circle(3, 1);
        edges.is("each leads on to the next", 3, three.ring());
        three.route(0, 2, NONE);
        edges.is("but for the last, when there is no route on", 0, three.ring());
    }

    private static void ring() {
        edges.says("Terms", "A RING: channels, each leading to the next one, the last to the first.");
        NetRoutes net = Nets.circle(5, 1);
        edges.is("ring", 5, net.ring());
        for (int to = 0; to < 5; to++) {
            net.route(4, to == 4 ? 3 : to, NONE);
        }
        edges.is("without the last none", 0, net.ring());
        edges.is("a lone channel is none", 0, Nets.line(2, 1).ring());
    }

    private static void firstToldException() {
        edges.says("Terms", "Of several exceptions the first one told is thrown.");
        for (int[] wrong : new int[][] {{16, 0, 1}, {0, 16, 1}, {3, 3, 1}, {0, 1, 0}, {0, 1, 5}, {-1, -1, -1}}) {
            edges.refused("link with forty", Edges.ARGUMENT, Nets::full, net -> net.link(wrong[0], wrong[1], wrong[2]));
        }
        for (int[] wrong : new int[][] {{16, 0, 1}, {0, 16, 1}, {0, 1, 0}, {0, 1, 17}, {-1, -1, -1}}) {
            edges.refused("send with 400", Edges.ARGUMENT, () -> Nets.loaded(Nets.full()), net -> net.send(wrong[0], wrong[1], wrong[2]));
        }
        for (int many : new int[] {0, 51, -1}) {
            edges.refused("load(" + many + ") with 400", Edges.ARGUMENT, () -> Nets.loaded(Nets.full()), net -> net.load(many));
            edges.refused("load(" + many + ") without nodes", Edges.ARGUMENT, () -> new NetRoutes(1), net -> net.load(many));
        }
    }

    private static void none() {
        edges.says("Terms", "The constants: `NONE = -1`: Nothing there.");
        edges.is("NONE", -1, NetRoutes.NONE);
        NetRoutes net = Nets.nodes(1, 2);
        edges.is("no route", NONE, net.route(0, 1, -1));
        edges.is("no such what", NONE, net.count(10));
        net.link(0, 1, 1);
        edges.is("no packet holds", NONE, net.channel(0, 1));
        edges.is("no front", NONE, net.channel(0, 2));
    }
}
