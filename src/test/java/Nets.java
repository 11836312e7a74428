/** Nets that several tests start from. */
final class Nets {
    private Nets() {
    }

    static NetRoutes nodes(int seed, int many) {
        NetRoutes net = new NetRoutes(seed);
        for (int k = 0; k < many; k++) {
            net.node();
        }
        return net;
    }

    /** Nodes 0 -> 1 -> .. one behind the other: link k goes from k to k + 1. */
    static NetRoutes line(int many, int channels) {
        NetRoutes net = nodes(1, many);
        for (int k = 0; k + 1 < many; k++) {
            net.link(k, k + 1, channels);
        }
        return withAllRoutes(net);
    }

    /** A line whose last node leads back to the first. */
    static NetRoutes circle(int many, int channels) {
        NetRoutes net = line(many, channels);
        net.link(many - 1, 0, channels);
        return withAllRoutes(net);
    }

    static NetRoutes withAllRoutes(NetRoutes net) {
        for (int to = 0; to < net.count(0); to++) {
            net.routes(to);
        }
        return net;
    }
}
