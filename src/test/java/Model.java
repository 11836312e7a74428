import java.util.ArrayDeque;
import java.util.ArrayList;
import java.util.Deque;
import java.util.HashMap;
import java.util.List;
import java.util.Map;
import java.util.TreeSet;
import java.util.function.Consumer;

/**
 * The document put into objects and lists word by word, with no thought of speed, to compare NetRoutes with.
 */
final class Model {
    static final int NONE = -1;

    static final class Flit {
        Packet packet;
        int place;
        int came;
    }

    static final class Packet {
        int end;
        int flits;
        int arrived;
        int gone;
        Input queue;
    }

    static class Input {
        int node;
        final Deque<Flit> flits = new ArrayDeque<>();
        Channel holds;
    }

    static final class Channel extends Input {
        int number;
        Link link;
        Input holder;
        Packet heldFor;
        int entered;
    }

    static final class Link {
        int from;
        int to;
        boolean failed;
        int last = NONE;
        final List<Channel> channels = new ArrayList<>();
    }

    private final List<Consumer<Model>> log = new ArrayList<>();
    private final Draws draws;
    final int seed;
    final List<Input> queues = new ArrayList<>();
    final List<Link> links = new ArrayList<>();
    final List<Packet> packets = new ArrayList<>();
    final Map<Integer, Map<Integer, Channel>> tables = new HashMap<>();
    int cycle;
    int moved;
    int left;
    int holdsGot;

    Model(int seed) {
        this.seed = seed;
        draws = new Draws(seed);
    }

    private static void refuseArgument(boolean when) {
        if (when) {
            throw new IllegalArgumentException();
        }
    }

    private static void refuseIndex(boolean when) {
        if (when) {
            throw new IndexOutOfBoundsException();
        }
    }

    private static void refuseLimit(boolean when) {
        if (when) {
            throw new UnsupportedOperationException();
        }
    }

    private boolean isNode(int node) {
        return node >= 0 && node < queues.size();
    }

    private boolean isLink(int link) {
        return link >= 0 && link < links.size();
    }

    int node() {
        refuseLimit(queues.size() == 16);
        log.add(Model::node);
        Input queue = new Input();
        queue.node = queues.size();
        queues.add(queue);
        tables.put(queue.node, new HashMap<>());
        return queue.node;
    }

    int link(int a, int b, int many) {
        refuseArgument(!isNode(a) || !isNode(b));
        refuseArgument(a == b);
        refuseArgument(many < 1 || many > 4);
        refuseLimit(links.size() == 40);
        log.add(m -> m.link(a, b, many));
        Link link = new Link();
        link.from = a;
        link.to = b;
        for (int k = 0; k < many; k++) {
            Channel channel = new Channel();
            channel.number = 4 * links.size() + k;
            channel.node = b;
            channel.link = link;
            link.channels.add(channel);
        }
        links.add(link);
        return links.size() - 1;
    }

    Channel channelOf(int number) {
        if (number < 0 || number / 4 >= links.size() || number % 4 >= links.get(number / 4).channels.size()) {
            return null;
        }
        return links.get(number / 4).channels.get(number % 4);
    }

    int route(int node, int to, int number) {
        refuseArgument(!isNode(node) || !isNode(to));
        refuseArgument(node == to);
        Channel taken = channelOf(number);
        refuseArgument(number != NONE && (taken == null || taken.link.from != node || taken.link.failed));
        log.add(m -> m.route(node, to, number));
        Channel before = number == NONE ? tables.get(node).remove(to) : tables.get(node).put(to, taken);
        return before == null ? NONE : before.number;
    }

    int routes(int to) {
        refuseArgument(!isNode(to));
        log.add(m -> m.routes(to));
        int[] far = distancesTo(to);
        int made = 0;
        for (int node = 0; node < queues.size(); node++) {
            tables.get(node).remove(to);
            for (int k = links.size() - 1; k >= 0 && node != to; k--) {
                Link link = links.get(k);
                if (link.from == node && !link.failed && far[node] < 99 && far[link.to] == far[node] - 1) {
                    tables.get(node).put(to, link.channels.get(0));
                }
            }
            made += tables.get(node).containsKey(to) ? 1 : 0;
        }
        return made;
    }

    private int[] distancesTo(int to) {
        int[] far = new int[queues.size()];
        java.util.Arrays.fill(far, 99);
        far[to] = 0;
        for (int again = 0; again < far.length; again++) {
            for (Link link : links) {
                if (!link.failed && far[link.to] + 1 < far[link.from]) {
                    far[link.from] = far[link.to] + 1;
                }
            }
        }
        return far;
    }

    int fail(int number) {
        refuseArgument(!isLink(number));
        refuseArgument(links.get(number).failed);
        log.add(m -> m.fail(number));
        Link link = links.get(number);
        link.failed = true;
        int before = routesInAll();
        for (Map<Integer, Channel> table : tables.values()) {
            table.values().removeIf(channel -> channel.link == link);
        }
        return before - routesInAll();
    }

    private int routesInAll() {
        return tables.values().stream().mapToInt(Map::size).sum();
    }

    int send(int from, int to, int flits) {
        refuseArgument(!isNode(from) || !isNode(to));
        refuseArgument(flits < 1 || flits > 16);
        refuseLimit(packets.size() == 400);
        log.add(m -> m.send(from, to, flits));
        return addPacket(from, to, flits);
    }

    private int addPacket(int from, int to, int flits) {
        Packet packet = new Packet();
        packet.end = to;
        packet.flits = flits;
        packet.queue = queues.get(from);
        for (int k = 0; k < flits; k++) {
            Flit flit = new Flit();
            flit.packet = packet;
            flit.place = k;
            flit.came = NONE;
            packet.queue.flits.addLast(flit);
        }
        packets.add(packet);
        return packets.size() - 1;
    }

    int load(int many) {
        refuseArgument(many < 1 || many > 50);
        if (queues.isEmpty()) {
            throw new IllegalStateException();
        }
        refuseLimit(packets.size() + many > 400);
        log.add(m -> m.load(many));
        for (int k = 0; k < many; k++) {
            int from = draws.next() % queues.size();
            int to = draws.next() % queues.size();
            addPacket(from, to, 1 + draws.next() % 8);
        }
        return packets.size() - 1;
    }

    int run(int cycles) {
        refuseArgument(cycles < 1 || cycles > 2000);
        log.add(m -> m.run(cycles));
        int before = arrived();
        for (int k = 0; k < cycles; k++) {
            cycle++;
            for (int node = 0; node < queues.size(); node++) {
                inputsOf(node).forEach(this::ask);
            }
            links.forEach(this::move);
            for (int node = 0; node < queues.size(); node++) {
                inputsOf(node).forEach(this::leave);
            }
        }
        return arrived() - before;
    }

    private List<Input> inputsOf(int node) {
        List<Input> inputs = new ArrayList<>();
        inputs.add(queues.get(node));
        for (Link link : links) {
            if (link.to == node) {
                inputs.addAll(link.channels);
            }
        }
        return inputs;
    }

    private Flit front(Input input) {
        Flit first = input.flits.peekFirst();
        return first == null || first.came == cycle ? null : first;
    }

    private void ask(Input input) {
        Flit front = front(input);
        if (front == null || front.place != 0 || front.packet.end == input.node || input.holds != null) {
            return;
        }
        Channel channel = tables.get(input.node).get(front.packet.end);
        if (channel != null && !channel.link.failed && channel.holder == null) {
            channel.holder = input;
            channel.heldFor = front.packet;
            input.holds = channel;
            holdsGot++;
        }
    }

    private void move(Link link) {
        int many = link.channels.size();
        for (int k = 1; k <= many; k++) {
            int lane = (link.last + k) % many;
            Channel channel = link.channels.get(lane);
            if (channel.holder != null && front(channel.holder) != null && channel.flits.size() < 4) {
                Flit flit = channel.holder.flits.removeFirst();
                flit.came = cycle;
                channel.flits.addLast(flit);
                channel.entered++;
                moved++;
                link.last = lane;
                if (flit.place == flit.packet.flits - 1) {
                    channel.holder.holds = null;
                    channel.holder = null;
                    channel.heldFor = null;
                }
                return;
            }
        }
    }

    private void leave(Input input) {
        Flit front = front(input);
        if (front != null && front.packet.end == input.node) {
            input.flits.removeFirst();
            front.packet.gone++;
            left++;
            if (front.place == front.packet.flits - 1) {
                front.packet.arrived = cycle;
            }
        }
    }

    int arrived() {
        return (int) packets.stream().filter(p -> p.arrived > 0).count();
    }

    int packet(int p, int what) {
        refuseIndex(p < 0 || p >= packets.size());
        refuseIndex(what < 0 || what > 3);
        Packet packet = packets.get(p);
        int waiting = (int) packet.queue.flits.stream().filter(f -> f.packet == packet && f.came == NONE).count();
        int buffered = 0;
        for (Link link : links) {
            for (Channel channel : link.channels) {
                buffered += (int) channel.flits.stream().filter(f -> f.packet == packet).count();
            }
        }
        return new int[] {packet.arrived, waiting, buffered, packet.gone}[what];
    }

    int channel(int number, int what) {
        Channel channel = channelOf(number);
        refuseIndex(channel == null);
        refuseIndex(what < 0 || what > 3);
        Flit first = channel.flits.peekFirst();
        return new int[] {channel.flits.size(), packets.indexOf(channel.heldFor),
            first == null ? NONE : packets.indexOf(first.packet), channel.entered}[what];
    }

    /** Does all over again in a new model, and one cycle more there. */
    boolean stuck() {
        if (count(5) + count(6) == 0) {
            return false;
        }
        Model twin = new Model(seed);
        log.forEach(call -> call.accept(twin));
        twin.run(1);
        return twin.moved == moved && twin.left == left && twin.holdsGot == holdsGot;
    }

    int count(int what) {
        switch (what) {
            case 0:
                return queues.size();
            case 1:
                return links.size();
            case 2:
                return packets.size();
            case 3:
                return arrived();
            case 4:
                return cycle;
            case 5:
                return queues.stream().mapToInt(q -> q.flits.size()).sum();
            case 6:
                return links.stream().flatMap(l -> l.channels.stream()).mapToInt(c -> c.flits.size()).sum();
            case 7:
                return moved;
            case 8:
                return left;
            case 9:
                return pairsWithoutWay();
            default:
                return NONE;
        }
    }

    private int pairsWithoutWay() {
        int without = 0;
        for (int a = 0; a < queues.size(); a++) {
            for (int b = 0; b < queues.size(); b++) {
                TreeSet<Integer> seen = new TreeSet<>();
                int at = a;
                while (at != b && seen.add(at) && tables.get(at).containsKey(b)) {
                    at = tables.get(at).get(b).node;
                }
                without += at == b ? 0 : 1;
            }
        }
        return without;
    }

    int ring() {
        return shortestRing().size();
    }

    int ringAt(int k) {
        List<Integer> ring = shortestRing();
        refuseIndex(k < 0 || k >= ring.size());
        return ring.get(k);
    }

    /** The channels of the ring, none without: of all shortest closed walks the one that is lowest, as a row. */
    private List<Integer> shortestRing() {
        Map<Integer, TreeSet<Integer>> graph = graph();
        for (int length = 1; length <= graph.size(); length++) {
            for (int start : new TreeSet<>(graph.keySet())) {
                List<TreeSet<Integer>> closing = thatClose(graph, start, length);
                if (closing.get(length).contains(start)) {
                    return lowestWalk(graph, closing, start, length);
                }
            }
        }
        return List.of();
    }

    private Map<Integer, TreeSet<Integer>> graph() {
        Map<Integer, TreeSet<Integer>> graph = new HashMap<>();
        for (int node = 0; node < queues.size(); node++) {
            for (Map.Entry<Integer, Channel> way : tables.get(node).entrySet()) {
                Channel c = way.getValue();
                int e = way.getKey();
                if (c.node != e && tables.get(c.node).containsKey(e)) {
                    graph.computeIfAbsent(c.number, k -> new TreeSet<>()).add(tables.get(c.node).get(e).number);
                }
            }
        }
        return graph;
    }

    /** By the number of steps: the channels from which just so many steps come to the start. */
    private List<TreeSet<Integer>> thatClose(Map<Integer, TreeSet<Integer>> graph, int start, int length) {
        List<TreeSet<Integer>> closing = new ArrayList<>();
        closing.add(new TreeSet<>(List.of(start)));
        for (int steps = 1; steps <= length; steps++) {
            TreeSet<Integer> found = new TreeSet<>();
            TreeSet<Integer> nearer = closing.get(steps - 1);
            for (Map.Entry<Integer, TreeSet<Integer>> entry : graph.entrySet()) {
                if (entry.getValue().stream().anyMatch(nearer::contains)) {
                    found.add(entry.getKey());
                }
            }
            closing.add(found);
        }
        return closing;
    }

    private List<Integer> lowestWalk(Map<Integer, TreeSet<Integer>> graph, List<TreeSet<Integer>> closing, int start, int length) {
        List<Integer> walk = new ArrayList<>(List.of(start));
        for (int steps = length - 1; steps >= 1; steps--) {
            TreeSet<Integer> next = new TreeSet<>(graph.get(walk.get(walk.size() - 1)));
            next.retainAll(closing.get(steps));
            walk.add(next.first());
        }
        return walk;
    }
}
