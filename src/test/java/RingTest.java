/** Promises 12 (ring) and 13 (ringAt). */
final class RingTest {
    private static final int NONE = NetRoutes.NONE;
    private static final Due due = new Due();

    public static void main(String[] args) {
        circles();
        none();
        ofTwo();
        sameEndIsNeeded();
        lowestBeginning();
        lowestThatCloses();
        shorterOneComesAndGoes();
        ofTheHighestChannels();
        due.end();
    }

    private static void circles() {
        for (int many = 3; many <= 16; many++) {
            NetRoutes net = Nets.circle(many, 1);
            due.is("ring of " + many, many, net.ring());
            for (int k = 0; k < many; k++) {
                due.is("ringAt(" + k + ")", 4 * k, net.ringAt(k));
            }
            refused(net, many);
        }
    }

    private static void none() {
        NetRoutes net = Nets.line(5, 4);
        due.is("ring of a line", 0, net.ring());
        refused(net, 0);
        NetRoutes two = Nets.nodes(1, 2);
        two.link(0, 1, 1);
        two.link(1, 0, 1);
        Nets.withAllRoutes(two);
        due.is("there and back to different ends is no ring", 0, two.ring());
    }

    private static void refused(NetRoutes net, int length) {
        for (int k : new int[] {-1, length, length + 1, 160, Integer.MIN_VALUE, Integer.MAX_VALUE}) {
            due.throwing("ringAt(" + k + ")", IndexOutOfBoundsException.class, () -> net.ringAt(k));
        }
    }

    /** Routes to 2 that send one another the packets. */
    private static void ofTwo() {
        NetRoutes net = Nets.nodes(1, 3);
        net.link(0, 1, 3);
        net.link(1, 0, 3);
        net.route(0, 2, 2);
        due.is("half of it", 0, net.ring());
        net.route(1, 2, 5);
        due.is("ring of two", 2, net.ring());
        due.is("first", 2, net.ringAt(0));
        due.is("second", 5, net.ringAt(1));
        refused(net, 2);
        net.route(1, 2, NONE);
        due.is("no more", 0, net.ring());
        net.route(1, 2, 6);
        net.fail(0);
        due.is("nor by a link that failed", 0, net.ring());
    }

    /** c leads to d for one and the same end only. */
    private static void sameEndIsNeeded() {
        NetRoutes net = Nets.nodes(1, 4);
        net.link(0, 1, 1);
        net.link(1, 0, 1);
        net.link(1, 2, 1);
        net.route(0, 2, 0);
        net.route(1, 2, 8);
        net.route(1, 3, 4);
        due.is("no ring", 0, net.ring());
        net.route(0, 3, 0);
        due.is("ring by end 3", 2, net.ring());
    }

    /** Two rings of one length: the one with the lowest channel, from that one on. */
    private static void lowestBeginning() {
        NetRoutes net = Nets.nodes(1, 16);
        net.link(9, 8, 1);
        net.link(1, 0, 2);
        net.link(8, 9, 1);
        net.link(0, 1, 2);
        net.route(0, 15, 13);
        net.route(1, 15, 5);
        due.is("begins with 5, not with the node 0", 5, net.ringAt(0));
        due.is("goes on with 13", 13, net.ringAt(1));
        net.route(0, 14, 12);
        net.route(1, 14, 4);
        due.is("the lower ring", 4, net.ringAt(0));
        due.is("its second", 12, net.ringAt(1));
        net.route(8, 15, 8);
        net.route(9, 15, 0);
        due.is("the lowest ring", 0, net.ringAt(0));
        due.is("of two", 8, net.ringAt(1));
        due.is("ring", 2, net.ring());
    }

    /**
     * Channel 0 (from 0 to 1) leads on by 4, which comes to a dead end, by 8 on a longer way round, and by 12 and 16,
     * which both close in time.
     */
    private static void lowestThatCloses() {
        NetRoutes net = Nets.nodes(1, 16);
        net.link(0, 1, 1);
        net.link(1, 4, 1);
        net.link(1, 5, 1);
        net.link(1, 2, 1);
        net.link(1, 3, 1);
        net.link(5, 6, 1);
        net.link(6, 0, 1);
        net.link(3, 0, 1);
        net.link(2, 0, 1);
        turn(net, 12, 0, 4);
        turn(net, 13, 0, 8, 20, 24);
        due.is("the longer one", 4, net.ring());
        due.is("its second", 8, net.ringAt(1));
        turn(net, 14, 0, 16, 28);
        due.is("of three", 3, net.ring());
        due.is("begins with", 0, net.ringAt(0));
        due.is("by 3", 16, net.ringAt(1));
        due.is("back", 28, net.ringAt(2));
        turn(net, 15, 0, 12, 32);
        due.is("of three still", 3, net.ring());
        due.is("by 2, which is lower", 12, net.ringAt(1));
        due.is("though its last is higher", 32, net.ringAt(2));
        refused(net, 3);
    }

    /** Routes to an end that go by these channels, one behind the other. */
    private static void turn(NetRoutes net, int end, int... channels) {
        int[] begins = {0, 1, 1, 1, 1, 5, 6, 3, 2};
        for (int channel : channels) {
            net.route(begins[channel / 4], end, channel);
        }
    }

    private static void shorterOneComesAndGoes() {
        NetRoutes net = Nets.circle(6, 1);
        net.link(3, 2, 1);
        due.is("as routes are now", 6, net.ring());
        net.route(3, 1, 24);
        due.is("2 and 3 send one another what is for 1", 2, net.ring());
        due.is("it begins", 8, net.ringAt(0));
        due.is("it ends", 24, net.ringAt(1));
        net.fail(6);
        due.is("without it", 6, net.ring());
        net.fail(5);
        due.is("the circle is broken", 0, net.ring());
        due.throwing("ringAt(0)", IndexOutOfBoundsException.class, () -> net.ringAt(0));
    }

    private static void ofTheHighestChannels() {
        NetRoutes net = Nets.nodes(1, 16);
        for (int k = 0; k < 38; k++) {
            net.link(0, 1, 4);
        }
        net.link(14, 13, 4);
        net.link(13, 14, 4);
        net.route(14, 15, 155);
        net.route(13, 15, 159);
        due.is("ring", 2, net.ring());
        due.is("its first", 155, net.ringAt(0));
        due.is("its second", 159, net.ringAt(1));
    }
}
