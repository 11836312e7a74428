/** Nets that several tests start from. */
final class Nets {
    private Nets() {
    }

    static NetRoutes nodes(int seed, int many) {
        NetRoutes net = new NetRoutes(seed);
        for (int k = 0; k < many; k++) {
            net.node();
        }
        return net;
    }

    /** Nodes 0 -> 1 -> .. one behind the other: link k goes from k to k + 1. */
    static NetRoutes line(int many, int channels) {
        NetRoutes net = nodes(1, many);
        for (int k = 0; k + 1 < many; k++) {
            net.link(k, k + 1, channels);
        }
        return withAllRoutes(net);
    }

    /** A line whose last node leads back to the first. */
    static NetRoutes circle(int many, int channels) {
        NetRoutes net = line(many, channels);
        net.link(many - 1, 0, channels);
        return withAllRoutes(net);
    }

    /** All that can be built: sixteen nodes in a circle, with links both ways, eight links across, four channels each. */
    static NetRoutes full() {
        NetRoutes net = nodes(9, 16);
        for (int k = 0; k < 16; k++) {
            net.link(k, (k + 1) % 16, 4);
            net.link((k + 1) % 16, k, 4);
        }
        for (int k = 0; k < 8; k++) {
            net.link(k, k + 8, 4);
        }
        return withAllRoutes(net);
    }

    /** A circle of four in the midst of its work: flits in queues and in buffers, channels held, some have left. */
    static NetRoutes busy() {
        NetRoutes net = circle(4, 2);
        net.send(0, 2, 5);
        net.send(1, 3, 16);
        net.send(3, 3, 2);
        net.send(0, 1, 1);
        net.run(3);
        return net;
    }

    /** As many packets as there can be, by eight calls. */
    static NetRoutes loaded(NetRoutes net) {
        for (int k = 0; k < 8; k++) {
            net.load(50);
        }
        return net;
    }

    static NetRoutes withAllRoutes(NetRoutes net) {
        for (int to = 0; to < net.count(0); to++) {
            net.routes(to);
        }
        return net;
    }
}
