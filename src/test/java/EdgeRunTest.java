/** The boundary cases that promises 9 (run), 10 (packet) and 11 (channel) name, sentence by sentence. */
final class EdgeRunTest {
    private static final int NONE = NetRoutes.NONE;
    private static final Edges edges = new Edges("Promise 9", "Promise 10", "Promise 11");

    public static void main(String[] args) {
        manyCycles();
        howManyArrived();
        tooFewOrManyCycles();
        cycleOfArrival();
        flitsInQueue();
        flitsInBuffers();
        flitsThatLeft();
        noSuchPacketOrWhat();
        flitsOfBuffer();
        packetThatHolds();
        packetOfFront();
        flitsThatWentIn();
        noSuchChannelOrWhat();
        edges.end();
    }

    /** A packet to 2 that nodes 0 and 1 send one another for ever: one move in each cycle. */
    private static NetRoutes forEver() {
        NetRoutes net = Nets.nodes(1, 3);
        net.link(0, 1, 1);
        net.link(1, 0, 1);
        net.route(0, 2, 0);
        net.route(1, 2, 4);
        net.send(0, 2, 1);
        return net;
    }

    private static void manyCycles() {
        edges.says("Promise 9", "So many cycles (1 .. 2000)");
        NetRoutes net = forEver();
        int sum = 0;
        for (int cycles : new int[] {1, 2, 1999, 2000, 1}) {
            net.run(cycles);
            sum += cycles;
            edges.is("cycles", sum, net.count(4));
            edges.is("moves, one in each", sum, net.count(7));
        }
        NetRoutes empty = new NetRoutes(1);
        empty.run(2000);
        edges.is("cycles of a net without nodes", 2000, empty.count(4));
        NetRoutes stuck = Nets.nodes(1, 2);
        stuck.send(0, 1, 1);
        stuck.run(2000);
        stuck.run(1);
        edges.is("cycles of a net that is stuck", 2001, stuck.count(4));
        NetRoutes late = Nets.line(2, 1);
        late.run(2000);
        late.send(0, 1, 16);
        edges.is("behind 2000 idle cycles", 1, late.run(2000));
        edges.is("arrived in cycle", 2017, late.packet(0, 0));
        edges.is("cycles", 4000, late.count(4));
    }

    private static void howManyArrived() {
        edges.says("Promise 9", "how many packets arrived in them");
        NetRoutes net = Nets.line(2, 1);
        edges.is("of none", 0, net.run(1));
        net.send(0, 1, 1);
        edges.is("the cycle before it arrives", 0, net.run(1));
        edges.is("the cycle in which it arrives", 1, net.run(1));
        edges.is("the cycle behind", 0, net.run(1));
        net.send(0, 1, 2);
        net.send(1, 1, 1);
        net.send(0, 1, 1);
        edges.is("all at once, and none of those before", 3, net.run(2000));
        NetRoutes many = Nets.loaded(Nets.nodes(1, 1));
        int arrived = many.run(2000);
        edges.is("all packets that there can be", 400, arrived + many.run(2000));
        NetRoutes sixteen = Nets.nodes(1, 16);
        for (int k = 0; k < 16; k++) {
            sixteen.send(k, k, 1);
        }
        edges.is("sixteen in one cycle", 16, sixteen.run(1));
    }

    private static void tooFewOrManyCycles() {
        edges.says("Promise 9", "IllegalArgumentException, when they are none of these.");
        for (int cycles : new int[] {0, 2001, -1, -2000, Integer.MIN_VALUE, Integer.MAX_VALUE}) {
            edges.refused("run(" + cycles + ")", Edges.ARGUMENT, Nets::busy, net -> net.run(cycles));
            edges.refused("run(" + cycles + ") of a new net", Edges.ARGUMENT, () -> new NetRoutes(1), net -> net.run(cycles));
        }
    }

    private static void cycleOfArrival() {
        edges.says("Promise 10", "Of a packet the cycle (from 1 on) in which it arrived (what 0; 0: not yet)");
        NetRoutes net = Nets.line(2, 1);
        net.send(1, 1, 1);
        net.send(0, 1, 2);
        edges.is("before the first cycle", 0, net.packet(0, 0));
        net.run(1);
        edges.is("in the first cycle", 1, net.packet(0, 0));
        net.run(1);
        edges.is("a flit has left", 1, net.packet(1, 3));
        edges.is("but not the tail: not yet", 0, net.packet(1, 0));
        net.run(1);
        edges.is("behind its tail", 3, net.packet(1, 0));
        net.run(2000);
        edges.is("it stays so", 3, net.packet(1, 0));
        edges.is("the first one's too", 1, net.packet(0, 0));
    }

    private static void flitsInQueue() {
        edges.says("Promise 10", "how many of its flits have not left their queue (1)");
        NetRoutes net = Nets.line(3, 1);
        net.route(1, 2, NONE);
        net.send(0, 2, 16);
        net.send(0, 2, 1);
        net.send(2, 2, 2);
        edges.is("all", 16, net.packet(0, 1));
        for (int k = 1; k <= 4; k++) {
            net.run(1);
            edges.is("one fewer each cycle", 16 - k, net.packet(0, 1));
        }
        net.run(100);
        edges.is("the buffer is full", 12, net.packet(0, 1));
        edges.is("behind it all wait", 1, net.packet(1, 1));
        edges.is("none of one that left from its queue", 0, net.packet(2, 1));
        net.routes(2);
        net.run(100);
        edges.is("none in the end", 0, net.packet(0, 1));
        edges.is("nor of the other", 0, net.packet(1, 1));
    }

    private static void flitsInBuffers() {
        edges.says("Promise 10", "are in buffers (2)");
        NetRoutes net = Nets.line(6, 1);
        net.route(4, 5, NONE);
        net.send(0, 5, 16);
        net.send(5, 5, 16);
        edges.is("none at first", 0, net.packet(0, 2));
        net.run(1);
        edges.is("one", 1, net.packet(0, 2));
        edges.is("what leaves from its queue is in none", 0, net.packet(1, 2));
        net.run(100);
        edges.is("all, in four full buffers", 16, net.packet(0, 2));
        net.routes(5);
        net.run(100);
        edges.is("none in the end", 0, net.packet(0, 2));
    }

    private static void flitsThatLeft() {
        edges.says("Promise 10", "have left the net (3)");
        NetRoutes net = Nets.line(2, 1);
        net.send(0, 1, 16);
        net.send(1, 1, 16);
        net.run(1);
        edges.is("none: it came in this cycle", 0, net.packet(0, 3));
        for (int k = 1; k <= 16; k++) {
            edges.is("from the queue one a cycle", k, net.packet(1, 3));
            net.run(1);
            edges.is("from the buffer one a cycle", k, net.packet(0, 3));
        }
        net.run(10);
        edges.is("all, and no more", 16, net.packet(0, 3));
        edges.is("all, and no more", 16, net.packet(1, 3));
    }

    private static void noSuchPacketOrWhat() {
        edges.says("Promise 10", "IndexOutOfBoundsException, when there is no such packet or what.");
        int[] far = {Integer.MIN_VALUE, Integer.MAX_VALUE};
        for (int p : new int[] {-1, 4, 5, 399, 400, far[0], far[1]}) {
            edges.refused("packet(" + p + ", 0)", Edges.INDEX, Nets::busy, net -> net.packet(p, 0));
        }
        for (int what : new int[] {-1, 4, 5, far[0], far[1]}) {
            edges.refused("packet(0, " + what + ")", Edges.INDEX, Nets::busy, net -> net.packet(0, what));
            edges.refused("packet(3, " + what + ")", Edges.INDEX, Nets::busy, net -> net.packet(3, what));
            edges.refused("packet(4, " + what + ")", Edges.INDEX, Nets::busy, net -> net.packet(4, what));
        }
        edges.refused("packet(0, 0) without packets", Edges.INDEX, () -> Nets.nodes(1, 1), net -> net.packet(0, 0));
        NetRoutes all = Nets.loaded(Nets.full());
        edges.is("the last of all", 0, all.packet(399, 0));
        for (int what = 0; what <= 3; what++) {
            int asked = what;
            edges.throwing("packet(400, " + what + ")", Edges.INDEX, () -> all.packet(400, asked));
        }
    }

    /** A packet that waits with all its flits before node 1, whose way on is shut. */
    private static NetRoutes shut(int flits) {
        NetRoutes net = Nets.line(3, 1);
        net.route(1, 2, NONE);
        net.send(0, 2, flits);
        return net;
    }

    private static void flitsOfBuffer() {
        edges.says("Promise 11", "Of a channel how many flits its buffer has (what 0)");
        NetRoutes net = shut(16);
        edges.is("empty", 0, net.channel(0, 0));
        for (int k = 1; k <= 4; k++) {
            net.run(1);
            edges.is("one more each cycle", k, net.channel(0, 0));
        }
        net.run(100);
        edges.is("full", 4, net.channel(0, 0));
        net.routes(2);
        net.run(1);
        edges.is("one went on, none came: there was no room then", 3, net.channel(0, 0));
        edges.is("where it went", 1, net.channel(4, 0));
        net.run(100);
        edges.is("empty again", 0, net.channel(0, 0));
        edges.is("empty too", 0, net.channel(4, 0));
    }

    private static void packetThatHolds() {
        edges.says("Promise 11", "the packet that holds it (1; NONE)");
        NetRoutes net = shut(4);
        net.send(0, 2, 1);
        edges.is("none at first", NONE, net.channel(0, 1));
        for (int k = 1; k <= 3; k++) {
            net.run(1);
            edges.is("packet 0", 0, net.channel(0, 1));
        }
        net.run(1);
        edges.is("none behind its tail", NONE, net.channel(0, 1));
        net.run(1);
        edges.is("packet 1, which waits for room", 1, net.channel(0, 1));
        net.routes(2);
        net.run(100);
        edges.is("none in the end", NONE, net.channel(0, 1));
        edges.is("nor of the other", NONE, net.channel(4, 1));
        NetRoutes starved = starved();
        edges.is("no flit of it is where it is held from", 0, starved.channel(0, 0));
        edges.is("it holds it all the same", 1, starved.channel(8, 1));
        edges.is("the packet of the highest number", 399, lastOfAll().channel(0, 1));
    }

    /** Packet 1 comes to node 2 by link 0 in every other cycle only, packet 0 in the others, by the other channel. */
    private static NetRoutes starved() {
        NetRoutes net = Nets.nodes(1, 4);
        net.link(0, 2, 2);
        net.link(3, 0, 1);
        net.link(2, 1, 1);
        net.route(0, 1, 0);
        net.route(2, 1, 8);
        net.route(0, 2, 1);
        net.route(3, 2, 4);
        net.send(3, 2, 8);
        net.run(1);
        net.send(0, 1, 8);
        net.run(4);
        return net;
    }

    private static void packetOfFront() {
        edges.says("Promise 11", "the packet of its front (2; NONE)");
        NetRoutes net = shut(1);
        net.send(0, 2, 1);
        edges.is("none at first", NONE, net.channel(0, 2));
        net.run(1);
        edges.is("packet 0", 0, net.channel(0, 2));
        net.run(10);
        edges.is("both are there", 2, net.channel(0, 0));
        edges.is("packet 0 in front", 0, net.channel(0, 2));
        net.routes(2);
        net.run(1);
        edges.is("then packet 1", 1, net.channel(0, 2));
        net.run(1);
        edges.is("then none", NONE, net.channel(0, 2));
        edges.is("the packet of the highest number", 399, lastOfAll().channel(0, 2));
    }

    /** Of 400 packets the last one is on its way from node 0 to node 1. */
    private static NetRoutes lastOfAll() {
        NetRoutes net = Nets.line(2, 1);
        for (int k = 0; k < 399; k++) {
            net.send(1, 1, 1);
        }
        net.send(0, 1, 2);
        net.run(1);
        return net;
    }

    private static void flitsThatWentIn() {
        edges.says("Promise 11", "how many flits went into it so far (3)");
        NetRoutes net = shut(16);
        edges.is("none at first", 0, net.channel(0, 3));
        net.run(100);
        edges.is("as many as there is room for", 4, net.channel(0, 3));
        edges.is("none where the way is shut", 0, net.channel(4, 3));
        net.routes(2);
        net.run(100);
        edges.is("all", 16, net.channel(0, 3));
        edges.is("all", 16, net.channel(4, 3));
        NetRoutes round = forEver();
        for (int k = 0; k < 5; k++) {
            round.run(2000);
        }
        edges.is("half of 10000", 5000, round.channel(0, 3));
        edges.is("the other half", 5000, round.channel(4, 3));
    }

    private static void noSuchChannelOrWhat() {
        edges.says("Promise 11", "IndexOutOfBoundsException, when there is no such channel or what.");
        int[] far = {Integer.MIN_VALUE, Integer.MAX_VALUE};
        for (int c : new int[] {-1, -4, 2, 3, 6, 14, 16, 159, 160, far[0], far[1]}) {
            edges.refused("channel(" + c + ", 0)", Edges.INDEX, Nets::busy, net -> net.channel(c, 0));
        }
        for (int what : new int[] {-1, 4, 5, far[0], far[1]}) {
            edges.refused("channel(0, " + what + ")", Edges.INDEX, Nets::busy, net -> net.channel(0, what));
            edges.refused("channel(16, " + what + ")", Edges.INDEX, Nets::busy, net -> net.channel(16, what));
        }
        edges.refused("channel(0, 0) without links", Edges.INDEX, () -> Nets.nodes(1, 2), net -> net.channel(0, 0));
        NetRoutes all = Nets.full();
        for (int what = 0; what <= 3; what++) {
            int asked = what;
            edges.is("channel(159, " + what + ")", what == 0 || what == 3 ? 0 : NONE, all.channel(159, what));
            edges.throwing("channel(160, " + what + ")", Edges.INDEX, () -> all.channel(160, asked));
        }
        all.fail(39);
        edges.is("a link that failed has its channels still", 0, all.channel(159, 0));
    }
}
