/** All that there can be at once: sixteen nodes, forty links of four channels, 400 packets of 16 flits. */
final class LimitTest {
    private static final Due due = new Due();

    public static void main(String[] args) {
        fullNet();
        loadedNet();
        crowdedRing();
        due.end();
    }

    private static void fullNet() {
        NetRoutes net = Nets.full();
        for (int p = 0; p < 400; p++) {
            net.send(p % 16, (p * 7 + 1) % 16, 16);
        }
        due.is("flits", 6400, net.count(5));
        net.run(2000);
        due.is("flits in all", 6400, net.count(5) + net.count(6) + net.count(8));
        due.is("not all have arrived", true, net.count(3) < 400 && !net.stuck());
        net.run(2000);
        due.is("all have arrived", 400, net.count(3));
        due.is("all flits have left", 6400, net.count(8));
    }

    private static void loadedNet() {
        NetRoutes net = Nets.loaded(Nets.full());
        due.is("nodes", 16, net.count(0));
        due.is("links", 40, net.count(1));
        due.is("packets", 400, net.count(2));
        due.is("all come to all", 0, net.count(9));
        int flits = net.count(5);
        net.run(20);
        int entered = 0;
        int buffered = 0;
        for (int c = 0; c < 160; c++) {
            entered += net.channel(c, 3);
            buffered += net.channel(c, 0);
        }
        due.is("moves are what went into channels", net.count(7), entered);
        due.is("flits in buffers", net.count(6), buffered);
        due.is("flits in all", flits, net.count(5) + net.count(6) + net.count(8));
    }

    /** All routes go one way round, by the highest links, by four rings of channels beside one another. */
    private static void crowdedRing() {
        NetRoutes net = Nets.nodes(1, 16);
        for (int k = 0; k < 24; k++) {
            net.link((k + 1) % 16, k % 16, 4);
        }
        for (int k = 0; k < 16; k++) {
            net.link(k, (k + 1) % 16, 4);
        }
        for (int node = 0; node < 16; node++) {
            for (int to = 0; to < 16; to++) {
                if (node != to) {
                    net.route(node, to, 96 + 4 * node + to % 4);
                }
            }
        }
        due.is("ring", 16, net.ring());
        for (int k = 0; k < 16; k++) {
            due.is("ringAt(" + k + ")", 96 + 4 * k, net.ringAt(k));
        }
        for (int p = 0; p < 176; p++) {
            net.send(p % 16, (p + p / 16) % 16, 16);
        }
        net.run(2000);
        due.is("stuck", true, net.stuck());
        due.is("nothing more comes", 0, net.run(2000));
        due.is("cycles", 4000, net.count(4));
    }
}
