/** The boundary cases that promises 12 (ring) and 13 (ringAt) name, sentence by sentence. */
final class EdgeRingTest {
    private static final int NONE = NetRoutes.NONE;
    private static final Edges edges = new Edges("Promise 12", "Promise 13");

    public static void main(String[] args) {
        lengths();
        without();
        asRoutesAreNow();
        lowestFirst();
        closedInTime();
        noSuchPlace();
        edges.end();
    }

    /** Nodes 0 .. many - 1 in a circle, whose routes to node 15 go round by this lane of links of four channels. */
    private static NetRoutes round(int many, int lane) {
        NetRoutes net = Nets.nodes(1, 16);
        for (int k = 0; k < many; k++) {
            net.link(k, (k + 1) % many, 4);
            net.route(k, 15, 4 * k + lane);
        }
        return net;
    }

    private static void lengths() {
        edges.says("Promise 12", "The length of the shortest ring of the channel graph");
        for (int many = 2; many <= 15; many++) {
            edges.is("from two channels on: a ring of " + many, many, round(many, many % 4).ring());
        }
        edges.is("by all sixteen nodes", 16, Nets.circle(16, 1).ring());
        NetRoutes net = round(9, 0);
        net.link(8, 7, 1);
        net.route(7, 14, 28);
        net.route(8, 14, 36);
        edges.is("the shortest of two, though its channels are the highest", 2, net.ring());
        net.route(8, 14, NONE);
        edges.is("the other one", 9, net.ring());
        NetRoutes longest = longest();
        edges.is("longer than there are nodes", 32, longest.ring());
        for (int k = 0; k < 32; k++) {
            edges.is("channel " + k + " of it", 4 * (k % 8) + k / 8, longest.ringAt(k));
        }
    }

    /**
     * Eight nodes in a circle; the channels of one lane lead on round to the last one, this leads to the first one of the
     * next lane, and the last of all to the first of all. The ends are the eight other nodes, two for each lane.
     */
    private static NetRoutes longest() {
        NetRoutes net = Nets.nodes(1, 16);
        for (int k = 0; k < 8; k++) {
            net.link(k, (k + 1) % 8, 4);
        }
        for (int lane = 0; lane < 4; lane++) {
            for (int k = 0; k < 7; k++) {
                net.route(k, 8 + lane, 4 * k + lane);
            }
            net.route(6, 12 + lane, 24 + lane);
            net.route(7, 12 + lane, 28 + lane);
            net.route(0, 12 + lane, (lane + 1) % 4);
        }
        return net;
    }

    private static void without() {
        edges.says("Promise 12", "0 without");
        edges.is("a new net", 0, new NetRoutes(1).ring());
        edges.is("nodes alone", 0, Nets.nodes(1, 16).ring());
        edges.is("a line", 0, Nets.line(16, 4).ring());
        NetRoutes two = Nets.nodes(1, 2);
        two.link(0, 1, 4);
        two.link(1, 0, 4);
        two.routes(0);
        two.routes(1);
        edges.is("two nodes, each the end of the other's routes", 0, two.ring());
        NetRoutes open = round(15, 0);
        open.route(7, 15, NONE);
        edges.is("a circle with one route missing", 0, open.ring());
        NetRoutes lanes = round(2, 0);
        lanes.route(0, 14, 1);
        lanes.route(1, 15, NONE);
        lanes.route(1, 14, NONE);
        lanes.route(1, 13, 4);
        edges.is("there and back, but to different ends", 0, lanes.ring());
    }

    private static void asRoutesAreNow() {
        edges.says("Promise 13", "Channel k of a shortest ring (the ring as routes are now)");
        NetRoutes net = round(3, 0);
        for (int lane = 3; lane >= 0; lane--) {
            for (int k = 0; k < 3; k++) {
                net.route(k, 15, 4 * k + lane);
            }
            for (int k = 0; k < 3; k++) {
                edges.is("ringAt(" + k + ")", 4 * k + lane, net.ringAt(k));
            }
        }
        net.link(1, 0, 1);
        net.route(1, 15, 12);
        edges.is("a shorter one: the first", 0, net.ringAt(0));
        edges.is("its last", 12, net.ringAt(1));
        edges.throwing("not the third of the one before", Edges.INDEX, () -> net.ringAt(2));
        net.fail(3);
        edges.throwing("none when its link failed", Edges.INDEX, () -> net.ringAt(0));
        net.route(1, 15, 4);
        edges.is("the first one again", 8, net.ringAt(2));
        net.send(0, 15, 16);
        net.run(100);
        edges.is("flits do not matter", 8, net.ringAt(2));
    }

    private static void lowestFirst() {
        edges.says("Promise 13", "it begins with the lowest channel that is in one");
        NetRoutes net = Nets.nodes(1, 16);
        for (int k = 0; k < 19; k++) {
            net.link(2 * (k % 7) + 1, 2 * (k % 7), 1);
            net.link(2 * (k % 7), 2 * (k % 7) + 1, 1);
        }
        net.link(13, 12, 4);
        net.link(12, 13, 4);
        net.route(12, 15, 159);
        net.route(13, 15, 155);
        edges.is("the highest of all: its first", 155, net.ringAt(0));
        edges.is("its second", 159, net.ringAt(1));
        for (int pair = 6; pair >= 0; pair--) {
            net.route(2 * pair, 14, 8 * pair + 4);
            net.route(2 * pair + 1, 14, 8 * pair);
            edges.is("of rings of one length the lower: its first", 8 * pair, net.ringAt(0));
            edges.is("its second", 8 * pair + 4, net.ringAt(1));
        }
        edges.is("not a lower one that is in no shortest ring", 4, longerOneLower().ringAt(0));
    }

    /** Channels 0, 16, 20 are a ring of three, 4 and 8 one of two. */
    private static NetRoutes longerOneLower() {
        NetRoutes net = Nets.nodes(1, 16);
        net.link(0, 1, 1);
        net.link(3, 4, 1);
        net.link(4, 3, 1);
        net.link(5, 6, 1);
        net.link(1, 2, 1);
        net.link(2, 0, 1);
        net.route(0, 15, 0);
        net.route(1, 15, 16);
        net.route(2, 15, 20);
        net.route(3, 15, 4);
        net.route(4, 15, 8);
        return net;
    }

    /**
     * From node 0 channel 0 leads to node 1; from there four ways come back to 0, to ends 12 .. 15: by 4 and 8 with four
     * links in all, by 12 and 16 with three.
     */
    private static void closedInTime() {
        edges.says("Promise 13", "goes on each time with the lowest one by which it can be closed in time");
        NetRoutes net = Nets.nodes(1, 16);
        net.link(0, 1, 1);
        net.link(1, 2, 1);
        net.link(1, 3, 1);
        net.link(1, 4, 1);
        net.link(1, 5, 1);
        net.link(2, 6, 1);
        net.link(6, 0, 1);
        net.link(3, 6, 1);
        net.link(5, 0, 1);
        net.link(4, 0, 1);
        way(net, 12, 0, 0, 1, 4, 2, 20, 6, 24);
        way(net, 13, 0, 0, 1, 8, 3, 28, 6, 24);
        edges.is("by the lower of two that are as long", 4, net.ringAt(1));
        edges.is("then", 20, net.ringAt(2));
        edges.is("closed by", 24, net.ringAt(3));
        way(net, 15, 0, 0, 1, 16, 5, 32);
        edges.is("not by the lowest, which would take longer", 16, net.ringAt(1));
        edges.is("closed by", 32, net.ringAt(2));
        way(net, 14, 0, 0, 1, 12, 4, 36);
        edges.is("by the lower one that is as short", 12, net.ringAt(1));
        edges.is("though its last is higher", 36, net.ringAt(2));
        edges.is("ring", 3, net.ring());
        way(net, 12, 2, NONE);
        edges.is("a dead end is lower, but does not close", 12, net.ringAt(1));
    }

    private static void way(NetRoutes net, int end, int... nodesAndChannels) {
        for (int k = 0; k < nodesAndChannels.length; k += 2) {
            net.route(nodesAndChannels[k], end, nodesAndChannels[k + 1]);
        }
    }

    private static void noSuchPlace() {
        edges.says("Promise 13", "IndexOutOfBoundsException, when there is none.");
        for (int k : new int[] {-1, 0, 1, Integer.MIN_VALUE, Integer.MAX_VALUE}) {
            edges.refused("ringAt(" + k + ") without a ring", Edges.INDEX, () -> Nets.line(4, 2), net -> net.ringAt(k));
        }
        edges.refused("ringAt(0) of a new net", Edges.INDEX, () -> new NetRoutes(1), net -> net.ringAt(0));
        for (int k : new int[] {-1, 4, 5, 159, 160, Integer.MIN_VALUE, Integer.MAX_VALUE}) {
            edges.refused("ringAt(" + k + ") of a ring of four", Edges.INDEX, Nets::busy, net -> net.ringAt(k));
        }
        edges.is("the last of four", 12, Nets.busy().ringAt(3));
        NetRoutes sixteen = Nets.circle(16, 1);
        edges.is("the last of sixteen", 60, sixteen.ringAt(15));
        edges.throwing("behind it", Edges.INDEX, () -> sixteen.ringAt(16));
    }
}
