/** Promise 14 (stuck). */
final class StuckTest {
    private static final int NONE = NetRoutes.NONE;
    private static final Due due = new Due();

    public static void main(String[] args) {
        empty();
        withoutRoute();
        eachPartAlone();
        ring();
        goingRound();
        changesNothing();
        due.end();
    }

    private static void empty() {
        NetRoutes net = Nets.line(2, 1);
        due.is("without flits", false, net.stuck());
        net.send(0, 1, 1);
        due.is("one that can go", false, net.stuck());
        net.run(2);
        due.is("when all arrived", false, net.stuck());
    }

    private static void withoutRoute() {
        NetRoutes net = Nets.nodes(1, 2);
        net.send(0, 1, 1);
        due.is("without a route", true, net.stuck());
        net.send(0, 0, 1);
        due.is("what stands behind it can't leave", true, net.stuck());
        net.send(1, 1, 1);
        due.is("another one can", false, net.stuck());
        net.run(1);
        due.is("then none can", true, net.stuck());
        net.link(0, 1, 1);
        due.is("a link is no route", true, net.stuck());
        net.route(0, 1, 0);
        due.is("with a route", false, net.stuck());
        net.fail(0);
        due.is("which failed", true, net.stuck());
    }

    /** Asking, moving or leaving alone is enough for not being stuck. */
    private static void eachPartAlone() {
        NetRoutes net = Nets.line(3, 1);
        net.route(1, 2, NONE);
        net.send(0, 2, 4);
        net.send(0, 2, 4);
        net.run(4);
        due.is("the second can still hold the channel", false, net.stuck());
        due.is("though it is full", 4, net.channel(0, 0));
        net.run(1);
        due.is("it holds it", 1, net.channel(0, 1));
        due.is("and no more", true, net.stuck());

        NetRoutes moving = Nets.line(3, 1);
        moving.route(1, 2, NONE);
        moving.send(0, 2, 5);
        moving.run(3);
        due.is("moves are left", false, moving.stuck());
        moving.run(1);
        due.is("no room is left", true, moving.stuck());

        NetRoutes leaving = Nets.line(2, 1);
        leaving.send(0, 1, 1);
        leaving.run(1);
        due.is("one that can leave from its buffer", false, leaving.stuck());
        NetRoutes home = Nets.nodes(1, 1);
        home.send(0, 0, 2);
        home.run(1);
        due.is("one that can leave from its queue", false, home.stuck());
    }

    private static void ring() {
        NetRoutes net = Nets.circle(3, 2);
        for (int k = 0; k < 3; k++) {
            net.send(k, (k + 2) % 3, 16);
        }
        due.is("before", false, net.stuck());
        due.is("none arrives", 0, net.run(100));
        due.is("each waits for the next", true, net.stuck());
        for (int k = 0; k < 3; k++) {
            due.is("held", k, net.channel(4 * k, 1));
            due.is("full", 4, net.channel(4 * k, 0));
        }
        net.route(0, 1, 1);
        due.is("a second channel sets one free", false, net.stuck());
        due.is("then all arrive", 3, net.run(200));
    }

    private static void goingRound() {
        NetRoutes net = Nets.nodes(1, 3);
        net.link(0, 1, 1);
        net.link(1, 0, 1);
        net.route(0, 2, 0);
        net.route(1, 2, 4);
        net.send(0, 2, 1);
        due.is("never arrives", 0, net.run(2000));
        due.is("moves for ever", 2000, net.count(7));
        due.is("and is not stuck", false, net.stuck());
    }

    private static void changesNothing() {
        NetRoutes asked = Nets.circle(4, 1);
        NetRoutes quiet = Nets.circle(4, 1);
        asked.load(20);
        quiet.load(20);
        for (int k = 0; k < 30; k++) {
            asked.stuck();
            asked.stuck();
            due.is("arrived", quiet.run(1), asked.run(1));
            for (int what = 0; what <= 9; what++) {
                due.is("count(" + what + ")", quiet.count(what), asked.count(what));
            }
        }
    }
}
