import java.util.ArrayList;
import java.util.List;
import java.util.TreeSet;

/**
 * What a net answers to questions, as rows of text to compare. Of what is many only the first and the last ones are asked,
 * so that an object stays within its 512 calls.
 */
final class Picture {
    private final NetRoutes net;
    private final List<String> rows = new ArrayList<>();

    private Picture(NetRoutes net) {
        this.net = net;
    }

    static List<String> of(NetRoutes net) {
        Picture picture = new Picture(net);
        picture.counts();
        picture.packets();
        picture.channels();
        picture.routes();
        picture.ring();
        return picture.rows;
    }

    private void add(String call, long answer) {
        rows.add(call + " = " + answer);
    }

    private static TreeSet<Integer> firstAndLast(int many, int ofEach) {
        TreeSet<Integer> some = new TreeSet<>();
        for (int k = 0; k < ofEach && k < many; k++) {
            some.add(k);
            some.add(many - 1 - k);
        }
        return some;
    }

    private void counts() {
        for (int what = 0; what <= 9; what++) {
            add("count(" + what + ")", net.count(what));
        }
    }

    private void packets() {
        for (int p : firstAndLast(net.count(2), 2)) {
            for (int what = 0; what <= 3; what++) {
                add("packet(" + p + ", " + what + ")", net.packet(p, what));
            }
        }
    }

    private void channels() {
        for (int link : firstAndLast(net.count(1), 2)) {
            for (int what = 0; what <= 3; what++) {
                add("channel(" + 4 * link + ", " + what + ")", net.channel(4 * link, what));
            }
        }
    }

    /** A route is told by taking it away; then it is put back. */
    private void routes() {
        TreeSet<Integer> nodes = firstAndLast(net.count(0), 2);
        for (int node : nodes) {
            for (int to : nodes) {
                if (node != to) {
                    int channel = net.route(node, to, NetRoutes.NONE);
                    net.route(node, to, channel);
                    add("route(" + node + ", " + to + ", ..)", channel);
                }
            }
        }
    }

    private void ring() {
        int length = net.ring();
        add("ring()", length);
        for (int k : firstAndLast(length, 2)) {
            add("ringAt(" + k + ")", net.ringAt(k));
        }
        add("stuck()", net.stuck() ? 1 : 0);
    }
}
