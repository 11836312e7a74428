import java.util.Arrays;

/**
 * A net of nodes and links with several channels each, through which packets go as rows of flits by tables of routes.
 * What each call promises stands in the document; README.md says how to use it.
 */
public final class NetRoutes {
    /** Nothing there. */
    public static final int NONE = -1;

    private static final int MOST_NODES = 16;
    private static final int MOST_LINKS = 40;
    private static final int MOST_PACKETS = 400;
    private static final int MOST_FLITS = 16;
    private static final int MOST_AT_ONCE = 50;
    private static final int MOST_CYCLES = 2000;
    private static final int LOAD_FLITS = 8;

    /** Channels are numbered as if every link had all of its lanes. */
    private static final int LANES = 4;
    private static final int CHANNELS = MOST_LINKS * LANES;
    private static final int ROOM = 4;
    private static final int PAIRS = MOST_NODES * MOST_NODES;

    private final Plan plan;
    private final Packets packets;
    private final Inputs inputs;
    private final Traffic traffic;
    private final Rings rings;
    private int seed;

    public NetRoutes(int seed) {
        this.seed = seed;
        plan = new Plan();
        packets = new Packets();
        inputs = new Inputs(plan, packets);
        traffic = new Traffic(plan, packets, inputs);
        rings = new Rings(plan);
    }

    public int node() throws UnsupportedOperationException {
        if (plan.nodes >= MOST_NODES) {
            throw new UnsupportedOperationException("there are sixteen nodes");
        }
        plan.nodes++;
        return plan.nodes - 1;
    }

    public int link(int a, int b, int channels) throws IllegalArgumentException, UnsupportedOperationException {
        if (!plan.hasTwoNodes(a, b)) {
            throw new IllegalArgumentException("a link goes from a node to another one");
        }
        if (channels < 1 || channels > LANES) {
            throw new IllegalArgumentException("a link has 1 to 4 channels");
        }
        if (plan.links >= MOST_LINKS) {
            throw new UnsupportedOperationException("there are forty links");
        }
        return plan.addLink(a, b, channels);
    }

    public int route(int node, int to, int channel) throws IllegalArgumentException {
        if (!plan.hasTwoNodes(node, to)) {
            throw new IllegalArgumentException("a route goes from a node to another one");
        }
        if (channel != NONE && !plan.canBeTaken(node, channel)) {
            throw new IllegalArgumentException("no channel that can be taken at this node");
        }
        int before = plan.wayAt(node, to);
        plan.changeWay(node, to, channel);
        return before;
    }

    public int routes(int to) throws IllegalArgumentException {
        if (!plan.hasNode(to)) {
            throw new IllegalArgumentException("no such node");
        }
        return plan.makeWaysTo(to);
    }

    public int fail(int link) throws IllegalArgumentException {
        if (!plan.hasLink(link) || plan.failed[link]) {
            throw new IllegalArgumentException("no such link, or it has failed");
        }
        return plan.breakLink(link);
    }

    public int send(int from, int to, int flits) throws IllegalArgumentException, UnsupportedOperationException {
        if (!plan.hasNode(from) || !plan.hasNode(to)) {
            throw new IllegalArgumentException("no such nodes");
        }
        if (flits < 1 || flits > MOST_FLITS) {
            throw new IllegalArgumentException("a packet has 1 to 16 flits");
        }
        if (packets.many >= MOST_PACKETS) {
            throw new UnsupportedOperationException("there are 400 packets");
        }
        return addPacket(from, to, flits);
    }

    public int load(int many)
            throws IllegalArgumentException, IllegalStateException, UnsupportedOperationException {
        if (many < 1 || many > MOST_AT_ONCE) {
            throw new IllegalArgumentException("1 to 50 packets at once");
        }
        if (plan.nodes == 0) {
            throw new IllegalStateException("there are no nodes");
        }
        if (packets.many + many > MOST_PACKETS) {
            throw new UnsupportedOperationException("there would be more than 400 packets");
        }
        for (int k = 0; k < many; k++) {
            int from = drawn() % plan.nodes;
            int to = drawn() % plan.nodes;
            int flits = 1 + drawn() % LOAD_FLITS;
            addPacket(from, to, flits);
        }
        return packets.many - 1;
    }

    public int run(int cycles) throws IllegalArgumentException {
        if (cycles < 1 || cycles > MOST_CYCLES) {
            throw new IllegalArgumentException("1 to 2000 cycles");
        }
        int before = packets.arrived;
        boolean changing = true;
        for (int k = 0; k < cycles && changing; k++) {
            changing = traffic.goOneCycle();
            if (!changing) {
                // A cycle that changed nothing is followed by its like: only their number counts.
                traffic.cycles += cycles - k - 1;
            }
        }
        return packets.arrived - before;
    }

    public int packet(int p, int what) throws IndexOutOfBoundsException {
        if (p < 0 || p >= packets.many) {
            throw new IndexOutOfBoundsException("no such packet");
        }
        switch (what) {
            case 0:
                return packets.arrivedIn[p];
            case 1:
                return packets.waiting[p];
            case 2:
                return packets.flits[p] - packets.waiting[p] - packets.left[p];
            case 3:
                return packets.left[p];
            default:
                throw new IndexOutOfBoundsException("no such number of a packet");
        }
    }

    public int channel(int channel, int what) throws IndexOutOfBoundsException {
        if (!plan.hasChannel(channel)) {
            throw new IndexOutOfBoundsException("no such channel");
        }
        switch (what) {
            case 0:
                return inputs.size[channel];
            case 1:
                return traffic.heldFor[channel];
            case 2:
                return inputs.frontPacketIn(channel);
            case 3:
                return traffic.entered[channel];
            default:
                throw new IndexOutOfBoundsException("no such number of a channel");
        }
    }

    public int ring() {
        rings.search();
        return rings.length;
    }

    public int ringAt(int k) throws IndexOutOfBoundsException {
        rings.search();
        if (k < 0 || k >= rings.length) {
            throw new IndexOutOfBoundsException("no such channel of a ring");
        }
        return rings.channelBehind(k);
    }

    public boolean stuck() {
        return packets.arrived < packets.many && traffic.isAtRest();
    }

    public int count(int what) {
        switch (what) {
            case 0:
                return plan.nodes;
            case 1:
                return plan.links;
            case 2:
                return packets.many;
            case 3:
                return packets.arrived;
            case 4:
                return traffic.cycles;
            case 5:
                return packets.flitsInQueues();
            case 6:
                return packets.flitsInBuffers();
            case 7:
                return traffic.moved;
            case 8:
                return packets.flitsLeft();
            case 9:
                return plan.pairsWithoutWay();
            default:
                return NONE;
        }
    }

    private int addPacket(int from, int to, int flits) {
        int packet = packets.add(to, flits);
        inputs.lineUp(from, packet);
        return packet;
    }

    private int drawn() {
        seed = (1103515245 * seed + 12345) & 0x7fffffff;
        return seed / 65536;
    }

    /** Nodes, links and the tables of routes; a way is what a table says of a node and an end. */
    private static final class Plan {
        int nodes;
        int links;
        final int[] begin = new int[MOST_LINKS];
        final int[] end = new int[MOST_LINKS];
        final int[] lanes = new int[MOST_LINKS];
        final boolean[] failed = new boolean[MOST_LINKS];
        final int[] ways = new int[PAIRS];
        final int[] distance = new int[MOST_NODES];

        Plan() {
            Arrays.fill(ways, NONE);
        }

        boolean hasNode(int node) {
            return node >= 0 && node < nodes;
        }

        boolean hasTwoNodes(int a, int b) {
            return hasNode(a) && hasNode(b) && a != b;
        }

        boolean hasLink(int link) {
            return link >= 0 && link < links;
        }

        boolean hasChannel(int channel) {
            return channel >= 0 && hasLink(channel / LANES) && channel % LANES < lanes[channel / LANES];
        }

        boolean canBeTaken(int node, int channel) {
            return hasChannel(channel) && beginOf(channel) == node && !failed[channel / LANES];
        }

        int beginOf(int channel) {
            return begin[channel / LANES];
        }

        int endOf(int channel) {
            return end[channel / LANES];
        }

        int wayAt(int node, int to) {
            return ways[node * MOST_NODES + to];
        }

        void changeWay(int node, int to, int channel) {
            ways[node * MOST_NODES + to] = channel;
        }

        int addLink(int a, int b, int channels) {
            int link = links;
            begin[link] = a;
            end[link] = b;
            lanes[link] = channels;
            links++;
            return link;
        }

        /** Links are tried by their numbers, so the first one that brings a node nearer is the one to take. */
        int makeWaysTo(int to) {
            Arrays.fill(distance, NONE);
            distance[to] = 0;
            for (int node = 0; node < nodes; node++) {
                changeWay(node, to, NONE);
            }
            int made = 0;
            for (int far = 1; far < nodes; far++) {
                for (int link = 0; link < links; link++) {
                    if (bringsNearer(link, far)) {
                        distance[begin[link]] = far;
                        changeWay(begin[link], to, link * LANES);
                        made++;
                    }
                }
            }
            return made;
        }

        private boolean bringsNearer(int link, int far) {
            return !failed[link] && distance[begin[link]] == NONE && distance[end[link]] == far - 1;
        }

        int breakLink(int link) {
            failed[link] = true;
            int gone = 0;
            for (int k = 0; k < PAIRS; k++) {
                if (ways[k] != NONE && ways[k] / LANES == link) {
                    ways[k] = NONE;
                    gone++;
                }
            }
            return gone;
        }

        int pairsWithoutWay() {
            int without = 0;
            for (int from = 0; from < nodes; from++) {
                for (int to = 0; to < nodes; to++) {
                    if (from != to && !comesTo(from, to)) {
                        without++;
                    }
                }
            }
            return without;
        }

        /** A way of as many links as there are nodes has gone round. */
        private boolean comesTo(int from, int to) {
            int at = from;
            for (int k = 0; k < nodes && at != to; k++) {
                int channel = wayAt(at, to);
                if (channel == NONE) {
                    return false;
                }
                at = endOf(channel);
            }
            return at == to;
        }
    }

    /** The packets; a flit is written as one number, of its packet and of its place in it. */
    private static final class Packets {
        int many;
        int arrived;
        final int[] end = new int[MOST_PACKETS];
        final int[] flits = new int[MOST_PACKETS];
        final int[] waiting = new int[MOST_PACKETS];
        final int[] left = new int[MOST_PACKETS];
        final int[] arrivedIn = new int[MOST_PACKETS];

        int add(int to, int length) {
            int packet = many;
            end[packet] = to;
            flits[packet] = length;
            waiting[packet] = length;
            many++;
            return packet;
        }

        int firstWaiting(int packet) {
            return packet * MOST_FLITS + flits[packet] - waiting[packet];
        }

        int packetOf(int flit) {
            return flit / MOST_FLITS;
        }

        int endOf(int flit) {
            return end[flit / MOST_FLITS];
        }

        boolean isHead(int flit) {
            return flit % MOST_FLITS == 0;
        }

        boolean isTail(int flit) {
            return flit % MOST_FLITS == flits[flit / MOST_FLITS] - 1;
        }

        void leave(int flit, int cycle) {
            int packet = packetOf(flit);
            left[packet]++;
            if (isTail(flit)) {
                arrivedIn[packet] = cycle;
                arrived++;
            }
        }

        int flitsInQueues() {
            return sumOf(waiting);
        }

        int flitsInBuffers() {
            return sumOf(flits) - sumOf(waiting) - sumOf(left);
        }

        int flitsLeft() {
            return sumOf(left);
        }

        private int sumOf(int[] row) {
            int sum = 0;
            for (int p = 0; p < many && p < row.length; p++) {
                sum += row[p];
            }
            return sum;
        }
    }

    /**
     * Where flits wait: inputs 0 .. 15 are the queues of the nodes, 16 + c is the buffer of channel c. Inputs of
     * different nodes never want the same channel, so going by these numbers is as good as going node by node.
     */
    private static final class Inputs {
        final Plan plan;
        final Packets packets;
        final int[] firstPacket = new int[MOST_NODES];
        final int[] lastPacket = new int[MOST_NODES];
        final int[] packetBehind = new int[MOST_PACKETS];
        final int[] slots = new int[CHANNELS * ROOM];
        final int[] size = new int[CHANNELS];
        /** How many flits of a buffer came in this cycle: they are no fronts before the next one. */
        final int[] fresh = new int[CHANNELS];

        Inputs(Plan plan, Packets packets) {
            this.plan = plan;
            this.packets = packets;
            Arrays.fill(firstPacket, NONE);
            Arrays.fill(lastPacket, NONE);
            Arrays.fill(packetBehind, NONE);
        }

        int inUse() {
            return MOST_NODES + plan.links * LANES;
        }

        int nodeOf(int input) {
            return input < MOST_NODES ? input : plan.endOf(input - MOST_NODES);
        }

        boolean hasRoom(int channel) {
            return size[channel] < ROOM;
        }

        int frontOf(int input) {
            if (input >= MOST_NODES) {
                int channel = input - MOST_NODES;
                return size[channel] > fresh[channel] ? slots[channel * ROOM] : NONE;
            }
            int packet = firstPacket[input];
            return packet == NONE ? NONE : packets.firstWaiting(packet);
        }

        int frontPacketIn(int channel) {
            return size[channel] > 0 ? packets.packetOf(slots[channel * ROOM]) : NONE;
        }

        void lineUp(int node, int packet) {
            int last = lastPacket[node];
            if (firstPacket[node] == NONE || last == NONE) {
                firstPacket[node] = packet;
            } else {
                packetBehind[last] = packet;
            }
            lastPacket[node] = packet;
        }

        void put(int channel, int flit) {
            slots[channel * ROOM + size[channel]] = flit;
            size[channel]++;
            fresh[channel]++;
        }

        void dropFront(int input) {
            if (input < MOST_NODES) {
                dropFromQueue(input);
            } else {
                dropFromBuffer(input - MOST_NODES);
            }
        }

        private void dropFromQueue(int node) {
            int packet = firstPacket[node];
            if (packet == NONE) {
                return;
            }
            packets.waiting[packet]--;
            if (packets.waiting[packet] == 0) {
                firstPacket[node] = packetBehind[packet];
            }
        }

        private void dropFromBuffer(int channel) {
            int base = channel * ROOM;
            for (int k = 1; k < size[channel]; k++) {
                slots[base + k - 1] = slots[base + k];
            }
            size[channel]--;
        }

        void endCycle() {
            Arrays.fill(fresh, 0);
        }
    }

    /** The cycles: what each input holds, and the three parts of asking, moving and leaving. */
    private static final class Traffic {
        final Plan plan;
        final Packets packets;
        final Inputs inputs;
        final int[] holds = new int[MOST_NODES + CHANNELS];
        final int[] holder = new int[CHANNELS];
        /** The packet for which a channel is held: its input may be without flits of it for a while. */
        final int[] heldFor = new int[CHANNELS];
        final int[] entered = new int[CHANNELS];
        final int[] lastLane = new int[MOST_LINKS];
        int cycles;
        int moved;

        Traffic(Plan plan, Packets packets, Inputs inputs) {
            this.plan = plan;
            this.packets = packets;
            this.inputs = inputs;
            Arrays.fill(holds, NONE);
            Arrays.fill(holder, NONE);
            Arrays.fill(heldFor, NONE);
            Arrays.fill(lastLane, NONE);
        }

        /** Whether the cycle changed anything. */
        boolean goOneCycle() {
            cycles++;
            boolean asked = askAll();
            boolean went = moveAll();
            boolean gone = leaveAll();
            inputs.endCycle();
            return asked || went || gone;
        }

        private boolean askAll() {
            boolean any = false;
            for (int input = 0; input < inputs.inUse(); input++) {
                int channel = channelToGet(input);
                if (channel != NONE) {
                    holds[input] = channel;
                    holder[channel] = input;
                    heldFor[channel] = packets.packetOf(inputs.frontOf(input));
                    any = true;
                }
            }
            return any;
        }

        private boolean moveAll() {
            boolean any = false;
            for (int link = 0; link < plan.links; link++) {
                int lane = laneToMove(link);
                if (lane != NONE) {
                    lastLane[link] = lane;
                    moveInto(link * LANES + lane);
                    any = true;
                }
            }
            return any;
        }

        private boolean leaveAll() {
            boolean any = false;
            for (int input = 0; input < inputs.inUse(); input++) {
                int flit = flitToLeave(input);
                if (flit != NONE) {
                    packets.leave(flit, cycles);
                    inputs.dropFront(input);
                    any = true;
                }
            }
            return any;
        }

        private int channelToGet(int input) {
            int front = inputs.frontOf(input);
            if (front == NONE || !packets.isHead(front) || holds[input] != NONE) {
                return NONE;
            }
            // No node has a way to itself, so a packet at its end gets nothing.
            int channel = plan.wayAt(inputs.nodeOf(input), packets.endOf(front));
            return channel == NONE || holder[channel] != NONE ? NONE : channel;
        }

        private int laneToMove(int link) {
            int lane = lastLane[link];
            for (int k = 0; k < plan.lanes[link]; k++) {
                lane = lane + 1 < plan.lanes[link] ? lane + 1 : 0;
                if (canMoveInto(link * LANES + lane)) {
                    return lane;
                }
            }
            return NONE;
        }

        private boolean canMoveInto(int channel) {
            int input = holder[channel];
            return input != NONE && inputs.frontOf(input) != NONE && inputs.hasRoom(channel);
        }

        private void moveInto(int channel) {
            int input = holder[channel];
            int flit = input == NONE ? NONE : inputs.frontOf(input);
            if (flit == NONE) {
                return;
            }
            inputs.dropFront(input);
            inputs.put(channel, flit);
            entered[channel]++;
            moved++;
            if (packets.isTail(flit)) {
                holds[input] = NONE;
                holder[channel] = NONE;
                heldFor[channel] = NONE;
            }
        }

        private int flitToLeave(int input) {
            int front = inputs.frontOf(input);
            return front != NONE && packets.endOf(front) == inputs.nodeOf(input) ? front : NONE;
        }

        /** While nothing changes, the three parts of a cycle all see the net as it is now. */
        boolean isAtRest() {
            for (int input = 0; input < inputs.inUse(); input++) {
                if (channelToGet(input) != NONE || flitToLeave(input) != NONE) {
                    return false;
                }
            }
            for (int link = 0; link < plan.links; link++) {
                if (laneToMove(link) != NONE) {
                    return false;
                }
            }
            return true;
        }
    }

    /** The channel graph: a node's way to an end is one step of it, from that channel to the next on this way. */
    private static final class Rings {
        final Plan plan;
        /** Of the steps that lead to a channel the first one, and of each step the next one to the same channel. */
        final int[] firstStep = new int[CHANNELS];
        final int[] nextStep = new int[PAIRS];
        /** How many steps bring a channel to the one where the ring begins; 0: none do, or it is not known. */
        final int[] toClose = new int[CHANNELS];
        final int[] reached = new int[CHANNELS];
        int start;
        int length;

        Rings(Plan plan) {
            this.plan = plan;
        }

        /** Finds the length of the shortest ring, 0 without, and the lowest channel in one. */
        void search() {
            gatherSteps();
            start = NONE;
            length = 0;
            for (int channel = 0; channel < plan.links * LANES; channel++) {
                int found = closeAt(channel);
                if (found != 0 && (length == 0 || found < length)) {
                    start = channel;
                    length = found;
                }
            }
        }

        private void gatherSteps() {
            Arrays.fill(firstStep, NONE);
            for (int node = 0; node < plan.nodes; node++) {
                for (int to = 0; to < plan.nodes; to++) {
                    int next = channelAfter(plan.wayAt(node, to), to);
                    if (next != NONE) {
                        int step = node * MOST_NODES + to;
                        nextStep[step] = firstStep[next];
                        firstStep[next] = step;
                    }
                }
            }
        }

        /** At the end itself there is no way on, for no node has one to itself. */
        private int channelAfter(int channel, int to) {
            return channel == NONE ? NONE : plan.wayAt(plan.endOf(channel), to);
        }

        /** The length of the shortest ring with this channel, or 0: goes back from it, the nearest channels first. */
        private int closeAt(int channel) {
            Arrays.fill(toClose, 0);
            reached[0] = channel;
            int many = 1;
            for (int at = 0; at < many && at < CHANNELS && toClose[channel] == 0; at++) {
                int next = reached[at];
                int step = firstStep[next];
                for (int k = 0; k < PAIRS && step != NONE; k++) {
                    int before = plan.ways[step];
                    if (before != NONE && toClose[before] == 0) {
                        toClose[before] = toClose[next] + 1;
                        if (before != channel && many < CHANNELS) {
                            reached[many] = before;
                            many++;
                        }
                    }
                    step = nextStep[step];
                }
            }
            return toClose[channel];
        }

        int channelBehind(int k) {
            if (start == NONE) {
                return NONE;
            }
            closeAt(start);
            int channel = start;
            for (int n = 1; n <= k && channel != NONE; n++) {
                channel = lowestThatCloses(channel, length - n);
            }
            return channel;
        }

        private int lowestThatCloses(int channel, int steps) {
            int node = plan.beginOf(channel);
            int lowest = NONE;
            for (int to = 0; to < plan.nodes; to++) {
                if (plan.wayAt(node, to) == channel) {
                    int next = channelAfter(channel, to);
                    if (next != NONE && toClose[next] == steps && (lowest == NONE || next < lowest)) {
                        lowest = next;
                    }
                }
            }
            return lowest;
        }
    }
}
