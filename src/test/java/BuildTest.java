/** Promises 1 (a new object), 2 (node) and 3 (link). */
final class BuildTest {
    private static final Due due = new Due();

    public static void main(String[] args) {
        newObject();
        nodes();
        links();
        linkRefusals();
        objectsAreApart();
        due.end();
    }

    private static void newObject() {
        for (int seed : new int[] {0, 1, -1, Integer.MAX_VALUE, Integer.MIN_VALUE}) {
            NetRoutes net = new NetRoutes(seed);
            for (int what = 0; what <= 9; what++) {
                due.is("count(" + what + ") of a new net", 0, net.count(what));
            }
            due.is("ring of a new net", 0, net.ring());
            due.is("stuck of a new net", false, net.stuck());
            due.is("run of a new net", 0, net.run(3));
            due.is("cycles of it", 3, net.count(4));
            due.throwing("routes(0)", IllegalArgumentException.class, () -> net.routes(0));
            due.throwing("fail(0)", IllegalArgumentException.class, () -> net.fail(0));
            due.throwing("packet(0, 0)", IndexOutOfBoundsException.class, () -> net.packet(0, 0));
            due.throwing("channel(0, 0)", IndexOutOfBoundsException.class, () -> net.channel(0, 0));
            due.throwing("ringAt(0)", IndexOutOfBoundsException.class, () -> net.ringAt(0));
        }
        due.is("NONE", -1, NetRoutes.NONE);
    }

    private static void nodes() {
        NetRoutes net = new NetRoutes(5);
        for (int k = 0; k < 16; k++) {
            due.is("node", k, net.node());
        }
        due.throwing("node 17", UnsupportedOperationException.class, net::node);
        due.throwing("node 17 again", UnsupportedOperationException.class, net::node);
        due.is("nodes behind a refusal", 16, net.count(0));
        due.is("the last node is there", 0, net.send(15, 15, 1));
    }

    private static void links() {
        NetRoutes net = Nets.nodes(5, 3);
        for (int k = 0; k < 40; k++) {
            due.is("link", k, net.link(k % 3, (k + 1) % 3, 1 + k % 4));
        }
        due.throwing("link 41", UnsupportedOperationException.class, () -> net.link(0, 1, 1));
        due.throwing("link 41 to itself", IllegalArgumentException.class, () -> net.link(1, 1, 1));
        due.throwing("link 41 from nowhere", IllegalArgumentException.class, () -> net.link(3, 1, 1));
        due.throwing("link 41 without channels", IllegalArgumentException.class, () -> net.link(0, 1, 0));
        due.is("links behind refusals", 40, net.count(1));
        for (int c = 0; c < 160; c++) {
            int channel = c;
            if (c % 4 < 1 + c / 4 % 4) {
                due.is("channel " + c + " is empty", 0, net.channel(c, 0));
            } else {
                due.throwing("channel " + c, IndexOutOfBoundsException.class, () -> net.channel(channel, 0));
            }
        }
        due.throwing("channel 160", IndexOutOfBoundsException.class, () -> net.channel(160, 0));
    }

    private static void linkRefusals() {
        NetRoutes net = Nets.nodes(5, 2);
        int[][] wrong = {{-1, 0, 1}, {0, -1, 1}, {2, 0, 1}, {0, 2, 1}, {0, 0, 1}, {1, 1, 4}, {0, 1, 0}, {0, 1, 5},
            {0, 1, -1}, {Integer.MIN_VALUE, 0, 1}, {0, Integer.MAX_VALUE, 1}, {0, 1, Integer.MIN_VALUE}};
        for (int[] w : wrong) {
            due.throwing("link(" + w[0] + ", " + w[1] + ", " + w[2] + ")", IllegalArgumentException.class,
                () -> net.link(w[0], w[1], w[2]));
        }
        due.is("no link came of it", 0, net.count(1));
        due.is("link(1, 0, 4)", 0, net.link(1, 0, 4));
        due.is("a second one beside it", 1, net.link(1, 0, 1));
    }

    private static void objectsAreApart() {
        NetRoutes one = Nets.line(3, 1);
        NetRoutes other = new NetRoutes(1);
        one.send(0, 2, 2);
        one.run(1);
        due.is("nodes of the other", 0, other.count(0));
        due.is("packets of the other", 0, other.count(2));
        due.is("cycles of the other", 0, other.count(4));
    }
}
