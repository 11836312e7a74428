/** Promises 9 (run), 10 (packet) and 11 (channel): what the three parts of a cycle do. */
final class RunTest {
    private static final int NONE = NetRoutes.NONE;
    private static final Due due = new Due();

    public static void main(String[] args) {
        runRefusals();
        runsAdd();
        onePacketStepByStep();
        fromTheQueue();
        leavesBehindATail();
        askingOrder();
        channelStaysHeld();
        heldChannelIsKept();
        firstTurnIsOfLaneZero();
        lanesTakeTurns();
        roomAsItIsThen();
        noTwoMovesInACycle();
        bufferOfTwoPackets();
        idleCyclesCount();
        packetRefusals();
        channelRefusals();
        due.end();
    }

    private static void runRefusals() {
        NetRoutes net = Nets.line(2, 1);
        net.send(0, 1, 1);
        for (int cycles : new int[] {0, -1, 2001, Integer.MIN_VALUE, Integer.MAX_VALUE}) {
            due.throwing("run(" + cycles + ")", IllegalArgumentException.class, () -> net.run(cycles));
        }
        due.is("no cycle came of it", 0, net.count(4));
        due.is("run(1)", 0, net.run(1));
        due.is("run(2000)", 1, net.run(2000));
        due.is("cycles", 2001, net.count(4));
    }

    /** The same cycles in one call and one by one. */
    private static void runsAdd() {
        NetRoutes one = Nets.circle(5, 2);
        NetRoutes other = Nets.circle(5, 2);
        one.load(30);
        other.load(30);
        int arrived = 0;
        for (int k = 0; k < 40; k++) {
            arrived += other.run(1);
        }
        due.is("run(40) and 40 times run(1)", arrived, one.run(40));
        for (int what = 0; what <= 9; what++) {
            due.is("count(" + what + ")", other.count(what), one.count(what));
        }
    }

    private static void onePacketStepByStep() {
        NetRoutes net = Nets.line(3, 1);
        net.send(0, 2, 2);
        packetIs(net, 0, 0, 2, 0, 0);
        channelIs(net, 0, 0, NONE, NONE, 0);
        due.is("cycle 1", 0, net.run(1));
        packetIs(net, 0, 0, 1, 1, 0);
        channelIs(net, 0, 1, 0, 0, 1);
        channelIs(net, 4, 0, NONE, NONE, 0);
        due.is("cycle 2", 0, net.run(1));
        packetIs(net, 0, 0, 0, 2, 0);
        channelIs(net, 0, 1, NONE, 0, 2);
        channelIs(net, 4, 1, 0, 0, 1);
        due.is("cycle 3", 0, net.run(1));
        packetIs(net, 0, 0, 0, 1, 1);
        channelIs(net, 0, 0, NONE, NONE, 2);
        channelIs(net, 4, 1, NONE, 0, 2);
        due.is("cycle 4", 1, net.run(1));
        packetIs(net, 0, 4, 0, 0, 2);
        channelIs(net, 4, 0, NONE, NONE, 2);
        due.is("cycle 5", 0, net.run(1));
        packetIs(net, 0, 4, 0, 0, 2);
        due.is("moved", 4, net.count(7));
        due.is("left", 2, net.count(8));
    }

    private static void fromTheQueue() {
        NetRoutes net = Nets.nodes(1, 1);
        net.send(0, 0, 3);
        net.send(0, 0, 1);
        due.is("cycles 1 and 2", 0, net.run(2));
        packetIs(net, 0, 0, 1, 0, 2);
        packetIs(net, 1, 0, 1, 0, 0);
        due.is("cycle 3", 1, net.run(1));
        packetIs(net, 1, 0, 1, 0, 0);
        due.is("cycle 4", 1, net.run(1));
        packetIs(net, 0, 3, 0, 0, 3);
        packetIs(net, 1, 4, 0, 0, 1);
        due.is("nothing moved", 0, net.count(7));
        net.send(0, 0, 1);
        due.is("behind an empty queue", 1, net.run(1));
        due.is("in cycle 5", 5, net.packet(2, 0));
    }

    /** What stands behind a tail that moves was there when the cycle began: it leaves in the same cycle. */
    private static void leavesBehindATail() {
        NetRoutes net = Nets.line(2, 1);
        net.send(0, 1, 1);
        net.send(0, 0, 2);
        net.run(1);
        packetIs(net, 0, 0, 0, 1, 0);
        packetIs(net, 1, 0, 1, 0, 1);
        due.is("both arrive", 2, net.run(1));
        due.is("in cycle 2", 2, net.packet(0, 0));
        due.is("in cycle 2 too", 2, net.packet(1, 0));
    }

    /** At node 2 its queue asks first, then the buffers by channel: 0 (from node 1) before 4 (from node 0). */
    private static void askingOrder() {
        NetRoutes net = Nets.nodes(1, 4);
        net.link(1, 2, 1);
        net.link(0, 2, 1);
        net.link(2, 3, 1);
        net.routes(3);
        net.send(0, 3, 1);
        net.send(1, 3, 1);
        net.run(1);
        net.send(2, 3, 1);
        net.run(1);
        packetIs(net, 2, 0, 0, 1, 0);
        packetIs(net, 0, 0, 0, 1, 0);
        due.is("the queue's packet arrives", 1, net.run(1));
        due.is("in cycle 3", 3, net.packet(2, 0));
        net.run(2);
        due.is("then that of channel 0", 4, net.packet(1, 0));
        due.is("then that of channel 4", 5, net.packet(0, 0));
    }

    private static void channelStaysHeld() {
        NetRoutes net = Nets.nodes(1, 3);
        net.link(0, 1, 1);
        net.link(2, 1, 1);
        net.link(1, 0, 1);
        net.routes(1);
        net.routes(0);
        net.send(0, 1, 3);
        net.send(0, 1, 1);
        net.run(1);
        due.is("held by packet 0", 0, net.channel(0, 1));
        net.run(1);
        due.is("held by packet 0 still", 0, net.channel(0, 1));
        net.run(1);
        due.is("free behind the tail", NONE, net.channel(0, 1));
        due.is("packet 1 has not moved", 1, net.packet(1, 1));
        net.run(1);
        due.is("packet 1 went through in one cycle", NONE, net.channel(0, 1));
        due.is("flits through it", 4, net.channel(0, 3));
    }

    /** A head that holds a channel without room waits for this one, even if its route is another by now. */
    private static void heldChannelIsKept() {
        NetRoutes net = Nets.line(3, 2);
        net.route(1, 2, NONE);
        net.send(0, 2, 4);
        net.send(0, 2, 1);
        net.run(5);
        due.is("the head holds channel 0", 1, net.channel(0, 1));
        net.route(0, 2, 1);
        net.run(5);
        due.is("it does not get channel 1 too", NONE, net.channel(1, 1));
        due.is("nor goes there", 0, net.channel(1, 3));
        due.is("it holds channel 0", 1, net.channel(0, 1));
        net.routes(2);
        net.route(0, 2, 1);
        due.is("both arrive", 2, net.run(20));
        due.is("by channel 0", 5, net.channel(0, 3));
    }

    /** Both channels of link 2 are held in the same cycle, by the buffers of links 0 and 1. */
    private static void firstTurnIsOfLaneZero() {
        for (int lane = 0; lane <= 1; lane++) {
            NetRoutes net = Nets.nodes(1, 6);
            net.link(0, 2, 1);
            net.link(1, 2, 1);
            net.link(2, 3, 2);
            net.route(0, 4, 0);
            net.route(1, 5, 4);
            net.route(2, 4, 8 + lane);
            net.route(2, 5, 9 - lane);
            net.send(0, 4, 3);
            net.send(1, 5, 3);
            net.run(2);
            due.is("held by", lane, net.channel(8, 1));
            due.is("held by", 1 - lane, net.channel(9, 1));
            due.is("lane 0 moved", 1, net.channel(8, 3));
            due.is("lane 1 did not", 0, net.channel(9, 3));
            net.run(1);
            due.is("lane 0 did not", 1, net.channel(8, 3));
            due.is("lane 1 moved", 1, net.channel(9, 3));
        }
    }

    /** A link moves one flit in a cycle: its channels take turns, from the one behind the last. */
    private static void lanesTakeTurns() {
        NetRoutes net = Nets.nodes(1, 5);
        net.link(0, 3, 1);
        net.link(1, 3, 1);
        net.link(2, 3, 1);
        net.link(3, 4, 4);
        for (int k = 0; k < 3; k++) {
            net.route(k, 4, 4 * k);
            net.send(k, 4, 9);
        }
        net.route(3, 4, 14);
        net.run(1);
        net.run(1);
        due.is("the first input has channel 14", 0, net.channel(14, 1));
        net.route(3, 4, 12);
        net.run(1);
        due.is("the second one has channel 12", 1, net.channel(12, 1));
        due.is("behind lane 2 come 3, 0: lane 0 moved", 1, net.channel(12, 3));
        due.is("lane 2 did not", 1, net.channel(14, 3));
        net.route(3, 4, 13);
        net.run(1);
        due.is("behind lane 0 comes 1", 1, net.channel(13, 3));
        due.is("which the third one has", 2, net.channel(13, 1));
        net.run(6);
        due.is("lane 0 in turn", 3, net.channel(12, 3));
        due.is("lane 1 in turn", 3, net.channel(13, 3));
        due.is("lane 2 in turn", 3, net.channel(14, 3));
        due.is("lane 3 never", 0, net.channel(15, 3));
        due.is("10 cycles, 9 moves on link 3", 9, net.count(8) + net.channel(12, 0) + net.channel(13, 0) + net.channel(14, 0));
    }

    /**
     * Link 0 goes into the node where link 1 begins. A full buffer of link 0 has no room while link 0 has its turn;
     * with the links the other way about, link 1 has emptied a place before.
     */
    private static void roomAsItIsThen() {
        due.is("the link in front has its turn later", 4, flitsWhenOpened(false));
        due.is("the link in front has its turn before", 5, flitsWhenOpened(true));
    }

    private static long flitsWhenOpened(boolean frontFirst) {
        NetRoutes net = Nets.nodes(1, 3);
        int near = 0;
        if (frontFirst) {
            net.link(1, 2, 1);
            near = 4 * net.link(0, 1, 1);
        } else {
            net.link(0, 1, 1);
            net.link(1, 2, 1);
        }
        net.routes(2);
        net.route(1, 2, NONE);
        net.send(0, 2, 10);
        net.run(20);
        due.is("full", 4, net.channel(near, 0));
        due.is("stuck", true, net.stuck());
        net.routes(2);
        net.run(1);
        return net.channel(near, 3);
    }

    /** Along links of rising numbers, where a flit that came could be moved on in the same cycle. */
    private static void noTwoMovesInACycle() {
        NetRoutes net = Nets.line(6, 1);
        net.send(0, 5, 2);
        for (int k = 1; k <= 5; k++) {
            net.run(1);
            due.is("head in channel", 1, net.channel(4 * (k - 1), 2) == 0 ? 1 : 0);
            due.is("moves", k == 1 ? 1 : 2 * k - 1, net.count(7));
        }
        due.is("not left in the cycle in which it came", 0, net.count(8));
        due.is("arrived", 1, net.run(2));
        due.is("in cycle 7", 7, net.packet(0, 0));
    }

    private static void bufferOfTwoPackets() {
        NetRoutes net = Nets.line(3, 1);
        net.route(1, 2, NONE);
        net.send(0, 2, 2);
        net.send(0, 2, 5);
        net.run(10);
        channelIs(net, 0, 4, 1, 0, 4);
        packetIs(net, 1, 0, 3, 2, 0);
        net.routes(2);
        net.run(3);
        due.is("the front is of the second one", 1, net.channel(0, 2));
        due.is("the first one has arrived", 13, net.packet(0, 0));
        due.is("the second one follows", 1, net.run(10));
        due.is("moved", 14, net.count(7));
    }

    private static void idleCyclesCount() {
        NetRoutes net = Nets.line(2, 1);
        net.run(2000);
        due.is("cycles of an empty net", 2000, net.count(4));
        net.route(0, 1, NONE);
        net.send(0, 1, 1);
        net.run(1999);
        due.is("cycles of a stuck net", 3999, net.count(4));
        net.routes(1);
        due.is("arrived", 1, net.run(2));
        due.is("in the cycle by all of them", 4001, net.packet(0, 0));
    }

    private static void packetRefusals() {
        NetRoutes net = Nets.nodes(1, 2);
        net.send(0, 1, 3);
        int[][] wrong = {{-1, 0}, {1, 0}, {0, -1}, {0, 4}, {400, 0}, {Integer.MIN_VALUE, 0}, {Integer.MAX_VALUE, 0},
            {0, Integer.MIN_VALUE}, {0, Integer.MAX_VALUE}, {1, 4}};
        for (int[] w : wrong) {
            due.throwing("packet(" + w[0] + ", " + w[1] + ")", IndexOutOfBoundsException.class, () -> net.packet(w[0], w[1]));
        }
    }

    private static void channelRefusals() {
        NetRoutes net = Nets.nodes(1, 2);
        net.link(0, 1, 2);
        net.link(1, 0, 4);
        net.fail(1);
        int[][] wrong = {{-1, 0}, {-4, 0}, {2, 0}, {3, 0}, {8, 0}, {159, 0}, {160, 0}, {0, -1}, {0, 4},
            {Integer.MIN_VALUE, 0}, {Integer.MAX_VALUE, 0}, {0, Integer.MIN_VALUE}, {0, Integer.MAX_VALUE}};
        for (int[] w : wrong) {
            due.throwing("channel(" + w[0] + ", " + w[1] + ")", IndexOutOfBoundsException.class, () -> net.channel(w[0], w[1]));
        }
        channelIs(net, 1, 0, NONE, NONE, 0);
        channelIs(net, 7, 0, NONE, NONE, 0);
    }

    private static void packetIs(NetRoutes net, int p, int arrived, int waiting, int buffered, int left) {
        due.is("packet(" + p + ", 0)", arrived, net.packet(p, 0));
        due.is("packet(" + p + ", 1)", waiting, net.packet(p, 1));
        due.is("packet(" + p + ", 2)", buffered, net.packet(p, 2));
        due.is("packet(" + p + ", 3)", left, net.packet(p, 3));
    }

    private static void channelIs(NetRoutes net, int c, int flits, int holder, int front, int entered) {
        due.is("channel(" + c + ", 0)", flits, net.channel(c, 0));
        due.is("channel(" + c + ", 1)", holder, net.channel(c, 1));
        due.is("channel(" + c + ", 2)", front, net.channel(c, 2));
        due.is("channel(" + c + ", 3)", entered, net.channel(c, 3));
    }
}
