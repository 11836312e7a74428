import java.util.Random;

/**
 * Runs of calls drawn from fixed seeds, on NetRoutes and on the model of the document: all answers and all exceptions are
 * the same. Each run ends with the 512 calls that an object is good for.
 */
final class ModelTest {
    private static final Due due = new Due();
    private static final int RUNS = 1000;
    private static final int CALLS = 512;
    private static final int CALLS_OF_WORK = 400;

    private final Random random;
    private final NetRoutes net;
    private final Model model;
    private final String name;
    private final int wrongOnes;
    private final int longRuns;
    private int calls;

    private ModelTest(int run) {
        random = new Random(run);
        int seed = random.nextInt();
        net = new NetRoutes(seed);
        model = new Model(seed);
        name = "run " + run;
        wrongOnes = run % 3 == 0 ? 8 : 100;
        longRuns = run % 7 == 0 ? 80 : 5;
    }

    public static void main(String[] args) {
        for (int run = 0; run < RUNS && !due.hasFault(); run++) {
            new ModelTest(run).play();
        }
        due.end();
    }

    private void play() {
        build();
        while (calls < CALLS_OF_WORK) {
            work();
            for (int k = random.nextInt(6); k > 0; k--) {
                ask();
            }
        }
        while (calls < CALLS) {
            ask();
        }
    }

    private void build() {
        int nodes = 1 + random.nextInt(random.nextBoolean() ? 5 : 16);
        for (int k = 0; k < nodes; k++) {
            node();
        }
        int links = random.nextInt(random.nextBoolean() ? 42 : 2 * nodes + 1);
        for (int k = 0; k < links; k++) {
            link();
        }
        if (random.nextInt(4) > 0) {
            for (int to = 0; to < nodes; to++) {
                routes(to);
            }
        }
        int strays = random.nextInt(3) * random.nextInt(60);
        for (int k = 0; k < strays; k++) {
            route();
        }
    }

    private void work() {
        switch (random.nextInt(20)) {
            case 0, 1, 2, 3, 4, 5, 6 -> run();
            case 7, 8, 9, 10, 11 -> send();
            case 12 -> load();
            case 13, 14, 15 -> route();
            case 16 -> routes(someNode());
            case 17 -> fail();
            case 18 -> link();
            default -> node();
        }
    }

    private void ask() {
        switch (random.nextInt(16)) {
            case 0, 1, 2, 3, 4 -> {
                int p = below(model.count(2));
                int what = below(4);
                same("packet(" + p + ", " + what + ")", () -> model.packet(p, what), () -> net.packet(p, what));
            }
            case 5, 6, 7, 8, 9 -> {
                int c = below(4 * model.count(1));
                int what = below(4);
                same("channel(" + c + ", " + what + ")", () -> model.channel(c, what), () -> net.channel(c, what));
            }
            case 10 -> same("ring()", model::ring, net::ring);
            case 11 -> {
                int k = below(model.ring());
                same("ringAt(" + k + ")", () -> model.ringAt(k), () -> net.ringAt(k));
            }
            case 12 -> same("stuck()", () -> model.stuck() ? 1 : 0, () -> net.stuck() ? 1 : 0);
            default -> {
                int what = below(10);
                same("count(" + what + ")", () -> model.count(what), () -> net.count(what));
            }
        }
    }

    /** One of 0 .. many - 1, or, now and then, one that is none of these. */
    private int below(int many) {
        if (many == 0 || random.nextInt(wrongOnes) == 0) {
            int[] wrong = {-1, many, many + 1, -4, Integer.MIN_VALUE, Integer.MAX_VALUE};
            return wrong[random.nextInt(wrong.length)];
        }
        return random.nextInt(many);
    }

    private int someNode() {
        return below(model.count(0));
    }

    private void node() {
        same("node()", model::node, net::node);
    }

    private void link() {
        int a = someNode();
        int b = someNode();
        int many = 1 + below(4);
        same("link(" + a + ", " + b + ", " + many + ")", () -> model.link(a, b, many), () -> net.link(a, b, many));
    }

    private void route() {
        int drawn = below(4 * model.count(1));
        Model.Channel taken = model.channelOf(drawn);
        int node = taken == null || random.nextInt(wrongOnes) == 0 ? someNode() : taken.link.from;
        int channel = random.nextInt(6) == 0 ? Model.NONE : drawn;
        int to = someNode();
        same("route(" + node + ", " + to + ", " + channel + ")", () -> model.route(node, to, channel),
            () -> net.route(node, to, channel));
    }

    private void routes(int to) {
        same("routes(" + to + ")", () -> model.routes(to), () -> net.routes(to));
    }

    private void fail() {
        if (random.nextInt(3) == 0) {
            int link = below(model.count(1));
            same("fail(" + link + ")", () -> model.fail(link), () -> net.fail(link));
        }
    }

    private void send() {
        int from = someNode();
        int to = someNode();
        int flits = 1 + below(random.nextBoolean() ? 16 : 3);
        same("send(" + from + ", " + to + ", " + flits + ")", () -> model.send(from, to, flits), () -> net.send(from, to, flits));
    }

    private void load() {
        int many = 1 + below(random.nextInt(4) == 0 ? 50 : 6);
        same("load(" + many + ")", () -> model.load(many), () -> net.load(many));
    }

    private void run() {
        int cycles = 1 + below(random.nextInt(10) == 0 ? longRuns : 3);
        same("run(" + cycles + ")", () -> model.run(cycles), () -> net.run(cycles));
    }

    private void same(String call, Due.Call want, Due.Call got) {
        if (calls < CALLS) {
            calls++;
            String wanted = outcome(want);
            String given = outcome(got);
            due.is(name + ", call " + calls + ": " + call + " gave " + given + ", due is " + wanted + ": the same", true, given.equals(wanted));
        }
    }

    private static String outcome(Due.Call call) {
        try {
            return Long.toString(call.answer());
        } catch (RuntimeException e) {
            return e.getClass().getSimpleName();
        }
    }
}
