/** Promise 15 (count); the pairs without a way stand in RouteTest. */
final class CountTest {
    private static final Due due = new Due();

    public static void main(String[] args) {
        stepByStep();
        others();
        due.end();
    }

    private static void stepByStep() {
        NetRoutes net = Nets.line(3, 2);
        countsAre(net, 3, 2, 0, 0, 0, 0, 0, 0, 0, 3);
        net.send(0, 2, 3);
        net.send(1, 1, 1);
        countsAre(net, 3, 2, 2, 0, 0, 4, 0, 0, 0, 3);
        net.run(1);
        countsAre(net, 3, 2, 2, 1, 1, 2, 1, 1, 1, 3);
        net.run(1);
        countsAre(net, 3, 2, 2, 1, 2, 1, 2, 3, 1, 3);
        net.run(1);
        countsAre(net, 3, 2, 2, 1, 3, 0, 2, 5, 2, 3);
        net.run(10);
        countsAre(net, 3, 2, 2, 2, 13, 0, 0, 6, 4, 3);
        net.node();
        net.link(3, 0, 1);
        net.fail(0);
        countsAre(net, 4, 3, 2, 2, 13, 0, 0, 6, 4, 11);
    }

    private static void countsAre(NetRoutes net, int... want) {
        for (int what = 0; what < want.length; what++) {
            due.is("count(" + what + ")", want[what], net.count(what));
        }
    }

    private static void others() {
        NetRoutes net = Nets.line(3, 1);
        for (int what : new int[] {-1, 10, 11, 100, Integer.MIN_VALUE, Integer.MAX_VALUE}) {
            due.is("count(" + what + ")", NetRoutes.NONE, net.count(what));
        }
    }
}
