import java.util.List;
import java.util.Random;

/** Runs of calls drawn from fixed seeds, on NetRoutes and on the model of the document: all answers are the same. */
final class ModelTest {
    private static final Due due = new Due();
    private static final int RUNS = 250;

    private final Random random;
    private final NetRoutes net;
    private final Model model;
    private final String name;

    private ModelTest(int run) {
        random = new Random(run);
        int seed = random.nextInt();
        net = new NetRoutes(seed);
        model = new Model(seed);
        name = "run " + run;
    }

    public static void main(String[] args) {
        for (int run = 0; run < RUNS && !due.hasFault(); run++) {
            new ModelTest(run).play();
        }
        due.end();
    }

    private void play() {
        int nodes = 2 + random.nextInt(random.nextBoolean() ? 4 : 15);
        for (int k = 0; k < nodes; k++) {
            same("node()", model.node(), net.node());
        }
        int links = 1 + random.nextInt(random.nextBoolean() ? 40 : 2 * nodes);
        for (int k = 0; k < links && k < 36; k++) {
            link();
        }
        if (random.nextInt(4) > 0) {
            for (int to = 0; to < nodes; to++) {
                same("routes(" + to + ")", model.routes(to), net.routes(to));
            }
        }
        int strays = random.nextInt(3) * random.nextInt(60);
        for (int k = 0; k < strays; k++) {
            route();
        }
        compareAll();
        for (int k = 0; k < 40 && !due.hasFault(); k++) {
            oneCall();
            compareAll();
        }
    }

    private void oneCall() {
        int kind = random.nextInt(20);
        if (kind < 6) {
            int cycles = 1 + random.nextInt(kind == 0 ? 60 : 4);
            same("run(" + cycles + ")", model.run(cycles), net.run(cycles));
        } else if (kind < 11) {
            send();
        } else if (kind < 13) {
            int many = 1 + random.nextInt(12);
            if (model.count(2) + many <= 400) {
                same("load(" + many + ")", model.load(many), net.load(many));
            }
        } else if (kind < 16) {
            route();
        } else if (kind < 17) {
            int to = someNode();
            same("routes(" + to + ")", model.routes(to), net.routes(to));
        } else if (kind < 18 && model.count(1) > 0) {
            int link = random.nextInt(model.count(1));
            if (!model.links.get(link).failed) {
                same("fail(" + link + ")", model.fail(link), net.fail(link));
            }
        } else if (kind < 19 && model.count(1) < 40) {
            link();
        } else if (model.count(0) < 16) {
            same("node()", model.node(), net.node());
        }
    }

    private int someNode() {
        return random.nextInt(model.count(0));
    }

    private void link() {
        int a = someNode();
        int b = someNode();
        int many = 1 + random.nextInt(4);
        if (a != b) {
            same("link(" + a + ", " + b + ", " + many + ")", model.link(a, b, many), net.link(a, b, many));
        }
    }

    private void route() {
        int channel = random.nextInt(4 * model.count(1) + 4);
        int to = someNode();
        Model.Channel taken = model.channelOf(channel);
        if (taken == null || taken.link.failed || taken.link.from == to) {
            return;
        }
        int node = taken.link.from;
        int given = random.nextInt(6) == 0 ? Model.NONE : channel;
        same("route(" + node + ", " + to + ", " + given + ")", model.route(node, to, given), net.route(node, to, given));
    }

    private void send() {
        int from = someNode();
        int to = someNode();
        int flits = 1 + random.nextInt(random.nextBoolean() ? 16 : 3);
        if (model.count(2) < 400) {
            same("send(" + from + ", " + to + ", " + flits + ")", model.send(from, to, flits), net.send(from, to, flits));
        }
    }

    private void compareAll() {
        for (int what = 0; what <= 9; what++) {
            same("count(" + what + ")", model.count(what), net.count(what));
        }
        same("stuck()", model.stuck() ? 1 : 0, net.stuck() ? 1 : 0);
        List<Integer> ring = model.ring();
        same("ring()", ring.size(), net.ring());
        for (int k = 0; k < ring.size() && k < net.ring(); k++) {
            same("ringAt(" + k + ")", ring.get(k), net.ringAt(k));
        }
        for (int p = 0; p < model.count(2); p++) {
            for (int what = 0; what <= 3; what++) {
                same("packet(" + p + ", " + what + ")", model.packet(p, what), net.packet(p, what));
            }
        }
        for (int c = 0; c < 4 * model.count(1); c++) {
            for (int what = 0; what <= 3 && model.channelOf(c) != null; what++) {
                same("channel(" + c + ", " + what + ")", model.channel(c, what), net.channel(c, what));
            }
        }
    }

    private void same(String call, long want, long got) {
        due.is(name + ": " + call, want, got);
    }
}
