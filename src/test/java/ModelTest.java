import java.util.ArrayDeque;
import java.util.ArrayList;
import java.util.Arrays;
import java.util.HashMap;
import java.util.HashSet;
import java.util.List;
import java.util.Map;
import java.util.Random;
import java.util.Set;

/**
 * Compares PausedFabric with a model that is written from the terms of the document alone and
 * counts everything anew from its frames, over many runs of calls from fixed seeds.
 */
public final class ModelTest {
    private static final int RUNS = 1000;
    private static final int CALLS = 512;
    private static int wrong = 0;

    public static void main(String[] args) {
        Coverage seen = new Coverage();
        for (int seed = 0; seed < RUNS && wrong < 20; seed++) {
            compareRun(seed, seen);
        }
        if (!seen.isWide()) {
            wrong++;
            System.out.println("the runs are too tame: " + seen);
        }
        if (wrong != 0) {
            System.exit(1);
        }
    }

    private static void compareRun(int seed, Coverage seen) {
        Random random = new Random(seed);
        int delay = random.nextInt(12) - 1;
        int xoff = random.nextBoolean() ? 4 + random.nextInt(8) : random.nextInt(46);
        int room = random.nextBoolean() ? random.nextInt(6) : random.nextInt(46) - 2;
        int mark = random.nextBoolean() ? random.nextInt(6) : random.nextInt(46);
        int hosts = random.nextBoolean() ? 8 : 2 + random.nextInt(6);
        int busy = 1 + random.nextInt(12);
        PausedFabric fabric = new PausedFabric(delay, xoff, room, mark);
        Model model = new Model(delay, xoff, room, mark);
        StringBuilder calls = new StringBuilder("new(" + delay + ", " + xoff + ", " + room + ", " + mark + ")");
        for (int made = 0; made < CALLS; made++) {
            int[] call = nextCall(random, hosts, busy, made);
            long got = answer(fabric, call);
            long due = model.answer(call);
            calls.append(' ').append(Arrays.toString(call));
            if (got != due) {
                wrong++;
                System.out.println("seed " + seed + ": " + calls + " answered " + got + ", due is " + due);
                return;
            }
        }
        seen.add(model);
    }

    /** A call is the number of its method and three arguments, of which it uses as many as it has. */
    private static int[] nextCall(Random random, int hosts, int busy, int made) {
        int kind = random.nextInt(made < 24 ? 3 : 36);
        if (kind == 0 && (made < 30 || random.nextInt(8) == 0)) {
            return new int[] {0, random.nextInt(hosts), pick(random, hosts, 9), pick(random, 2, 3)};
        }
        if (kind == 1 && made >= 24) {
            return new int[] {1, pick(random, 2, 3), random.nextInt(20) == 0 ? random.nextInt(12) - 1 : 1 + random.nextInt(8), 0};
        }
        if (kind <= 1 + busy) {
            return new int[] {2, pick(random, 6, 14), random.nextInt(30) == 0 ? random.nextInt(8) - 1 : 1 + random.nextInt(4), 0};
        }
        if (kind <= 20) {
            return new int[] {3, random.nextInt(30) == 0 ? random.nextInt(25) - 1 : 1 + random.nextInt(5), 0, 0};
        }
        int method = 4 + random.nextInt(13);
        if (method >= 8 && method <= 11) {
            int[] link = Model.LINKS.get(random.nextInt(Model.LINKS.size()));
            boolean odd = random.nextInt(20) == 0;
            int u = odd ? random.nextInt(17) - 1 : link[0];
            int v = odd ? random.nextInt(17) - 1 : link[1];
            return new int[] {method, u, v, pick(random, 2, 3)};
        }
        boolean ofFrame = method >= 5 && method <= 7;
        return new int[] {method, ofFrame ? random.nextInt(102) - 1 : pick(random, 8, 14), 0, 0};
    }

    private static int pick(Random random, int usual, int most) {
        return random.nextInt(20) == 0 ? random.nextInt(most + 1) - 1 : random.nextInt(usual);
    }

    private static long answer(PausedFabric x, int[] c) {
        switch (c[0]) {
            case 0: return x.flow(c[1], c[2], c[3]);
            case 1: return x.share(c[1], c[2]) ? 1 : 0;
            case 2: return x.inject(c[1], c[2]);
            case 3: return x.tick(c[1]);
            case 4: return x.clock();
            case 5: return x.state(c[1]);
            case 6: return x.node(c[1]);
            case 7: return x.marked(c[1]) ? 1 : 0;
            case 8: return x.queued(c[1], c[2], c[3]);
            case 9: return x.held(c[1], c[2], c[3]);
            case 10: return x.asks(c[1], c[2]) ? 1 : 0;
            case 11: return x.paused(c[1], c[2]) ? 1 : 0;
            case 12: return x.rate(c[1]);
            case 13: return x.alpha(c[1]);
            case 14: return x.received(c[1]);
            case 15: return x.dropped(c[1]);
            default: return x.last(c[1]);
        }
    }

    /** What the runs came upon: a comparison of runs in which nothing happens would prove nothing. */
    private static final class Coverage {
        int received, dropped0, dropped1, marked, slow, pauses, fullFlows, fullFrames;

        void add(Model model) {
            for (Model.Fr frame : model.frames) {
                received += frame.state == 4 ? 1 : 0;
                dropped0 += frame.state == 5 && frame.flow.priority == 0 ? 1 : 0;
                dropped1 += frame.state == 5 && frame.flow.priority == 1 ? 1 : 0;
                marked += frame.marked ? 1 : 0;
            }
            for (Model.Fl flow : model.flows) {
                slow += flow.rate < 32 ? 1 : 0;
            }
            pauses += model.pauses;
            fullFlows += model.flows.size() == 12 ? 1 : 0;
            fullFrames += model.frames.size() == 100 ? 1 : 0;
        }

        boolean isWide() {
            return received > 1000 && dropped0 > 100 && dropped1 > 100 && marked > 1000 && slow > 100
                && pauses > 1000 && fullFlows > 10 && fullFrames > 10;
        }

        @Override
        public String toString() {
            return received + " received, " + dropped0 + " and " + dropped1 + " dropped, " + marked + " marked, "
                + slow + " slow flows, " + pauses + " pauses, " + fullFlows + " runs of 12 flows, "
                + fullFrames + " runs of 100 frames";
        }
    }

    private static final class Model {
        static final List<int[]> LINKS = links();
        final int delay, xoff, room, mark;
        final List<Fl> flows = new ArrayList<>();
        final List<Fr> frames = new ArrayList<>();
        final Map<String, Po> ports = new HashMap<>();
        final Map<Integer, Set<String>> askingAtEnd = new HashMap<>();
        final Set<String> asking = new HashSet<>();
        final int[] quantum = {1, 1};
        int time = 0;
        int pauses = 0;

        Model(int delay, int xoff, int room, int mark) {
            this.delay = delay < 1 ? 1 : delay > 8 ? 8 : delay;
            this.xoff = xoff < 4 ? 4 : xoff > 40 ? 40 : xoff;
            this.room = room < 0 ? 0 : room > 40 ? 40 : room;
            this.mark = mark < 1 ? 1 : mark > 40 ? 40 : mark;
            for (int[] link : LINKS) {
                ports.put(link[0] + ">" + link[1], new Po(link[0], link[1]));
            }
        }

        static List<int[]> links() {
            List<int[]> all = new ArrayList<>();
            for (int leaf = 0; leaf < 4; leaf++) {
                for (int end : new int[] {2 * leaf, 2 * leaf + 1, 12, 13}) {
                    all.add(new int[] {8 + leaf, end});
                    all.add(new int[] {end, 8 + leaf});
                }
            }
            return all;
        }

        static final class Fl {
            int number, priority, rate = 64, target = 64, alpha = 64, calm = 0, waitUntil = 0, last = -1;
            List<Integer> route = new ArrayList<>();
            Set<Integer> markedReceipts = new HashSet<>();
        }

        static final class Fr {
            Fl flow;
            int number, length, place = 0, state = 1, sendingBegan = -1;
            boolean marked = false;

            int at(int place) {
                return flow.route.get(place);
            }
        }

        static final class Po {
            final int u, v;
            final List<ArrayDeque<Fr>> queues = List.of(new ArrayDeque<>(), new ArrayDeque<>());
            final int[] credit = new int[2];
            int turn = 0;
            boolean paused = false;

            Po(int u, int v) {
                this.u = u;
                this.v = v;
            }
        }

        long answer(int[] c) {
            Fl flow = c[1] >= 0 && c[1] < flows.size() ? flows.get(c[1]) : null;
            Fr frame = c[1] >= 0 && c[1] < frames.size() ? frames.get(c[1]) : null;
            Po port = ports.get(c[1] + ">" + c[2]);
            boolean noLane = port == null || c[3] < 0 || c[3] > 1;
            switch (c[0]) {
                case 0: return addFlow(c[1], c[2], c[3]);
                case 1: return setShare(c[1], c[2]);
                case 2: return addFrame(flow, c[2]);
                case 3: return ticks(c[1]);
                case 4: return time;
                case 5: return frame == null ? -1 : frame.state;
                case 6: return frame == null ? -1 : frame.at(frame.place);
                case 7: return frame != null && frame.marked ? 1 : 0;
                case 8: return noLane ? -1 : port.queues.get(c[3]).stream().mapToInt(x -> x.length).sum();
                case 9: return noLane ? -1 : heldBy(port.u, port.v, c[3]);
                case 10: return port != null && asking.contains(c[1] + ">" + c[2]) ? 1 : 0;
                case 11: return port != null && port.paused ? 1 : 0;
                case 12: return flow == null ? 0 : flow.rate;
                case 13: return flow == null ? 0 : flow.alpha;
                case 14: return flow == null ? 0 : count(flow, 4);
                case 15: return flow == null ? 0 : count(flow, 5);
                default: return flow == null ? -1 : flow.last;
            }
        }

        long count(Fl flow, int state) {
            return frames.stream().filter(x -> x.flow == flow && x.state == state).count();
        }

        int addFlow(int from, int to, int priority) {
            if (from < 0 || from > 7 || to < 0 || to > 7 || from == to || priority < 0 || priority > 1 || flows.size() == 12) {
                return -1;
            }
            Fl flow = new Fl();
            flow.number = flows.size();
            flow.priority = priority;
            flow.route.add(from);
            flow.route.add(8 + from / 2);
            if (from / 2 != to / 2) {
                boolean odd = Integer.toBinaryString(flow.number).replace("0", "").length() % 2 == 1;
                flow.route.add(odd ? 13 : 12);
                flow.route.add(8 + to / 2);
            }
            flow.route.add(to);
            flows.add(flow);
            return flow.number;
        }

        int setShare(int priority, int value) {
            if (priority < 0 || priority > 1 || value < 1 || value > 8) {
                return 0;
            }
            quantum[priority] = value;
            return 1;
        }

        int addFrame(Fl flow, int length) {
            if (flow == null || length < 1 || length > 4 || frames.size() == 100) {
                return -1;
            }
            Fr frame = new Fr();
            frame.number = frames.size();
            frame.flow = flow;
            frame.length = length;
            frames.add(frame);
            portOf(frame).queues.get(flow.priority).add(frame);
            return frame.number;
        }

        Po portOf(Fr frame) {
            return ports.get(frame.at(frame.place) + ">" + frame.at(frame.place + 1));
        }

        int heldBy(int u, int v, int priority) {
            int sum = 0;
            for (Fr frame : frames) {
                boolean there = frame.state == 1 || frame.state == 2;
                if (there && frame.place > 0 && frame.flow.priority == priority
                    && frame.at(frame.place - 1) == u && frame.at(frame.place) == v) {
                    sum += frame.length;
                }
            }
            return sum;
        }

        int ticks(int n) {
            if (n < 1 || n > 20) {
                return -1;
            }
            int received = 0;
            for (int i = 0; i < n; i++) {
                received += oneTick();
            }
            return received;
        }

        int oneTick() {
            time++;
            endings();
            for (Fl flow : flows) {
                tell(flow, flow.markedReceipts.contains(time - delay));
            }
            int received = arrivals();
            Set<String> before = askingAtEnd.getOrDefault(time - delay, Set.of());
            for (Map.Entry<String, Po> entry : ports.entrySet()) {
                entry.getValue().paused = before.contains(entry.getKey());
                pauses += entry.getValue().paused ? 1 : 0;
                portChooses(entry.getValue());
            }
            askingAtEnd.put(time, new HashSet<>(asking));
            return received;
        }

        void endings() {
            for (Fr frame : frames) {
                if (frame.state != 2 || frame.sendingBegan + frame.length != time) {
                    continue;
                }
                frame.state = 3;
                if (frame.place > 0 && frame.flow.priority == 0) {
                    int u = frame.at(frame.place - 1);
                    int v = frame.at(frame.place);
                    if (heldBy(u, v, 0) <= xoff / 2) {
                        asking.remove(u + ">" + v);
                    }
                }
            }
        }

        void tell(Fl flow, boolean told) {
            if (told) {
                flow.target = flow.rate;
                flow.rate = flow.rate - flow.rate * flow.alpha / 128;
                if (flow.rate < 1) {
                    flow.rate = 1;
                }
                flow.alpha = (15 * flow.alpha + 64) / 16;
                flow.calm = 0;
            } else if (++flow.calm == 16) {
                flow.calm = 0;
                flow.alpha = 15 * flow.alpha / 16;
                flow.rate = (flow.rate + flow.target + 1) / 2;
            }
        }

        int arrivals() {
            int received = 0;
            for (int from = 0; from < 14; from++) {
                for (Fr frame : frames) {
                    boolean now = frame.state == 3 && frame.sendingBegan + frame.length + delay == time;
                    if (now && frame.at(frame.place) == from) {
                        received += arrival(frame);
                    }
                }
            }
            return received;
        }

        int arrival(Fr frame) {
            Fl flow = frame.flow;
            int u = frame.at(frame.place);
            int v = frame.at(frame.place + 1);
            int before = v < 8 ? 0 : heldBy(u, v, flow.priority);
            frame.place++;
            if (v < 8) {
                frame.state = 4;
                flow.last = frame.number;
                if (frame.marked) {
                    flow.markedReceipts.add(time);
                }
                return 1;
            }
            if (before + frame.length > (flow.priority == 1 ? xoff : xoff + room)) {
                frame.state = 5;
                return 0;
            }
            frame.state = 1;
            ArrayDeque<Fr> queue = portOf(frame).queues.get(flow.priority);
            queue.add(frame);
            if (queue.stream().mapToInt(x -> x.length).sum() > mark) {
                frame.marked = true;
            }
            if (flow.priority == 0 && heldBy(u, v, 0) >= xoff) {
                asking.add(u + ">" + v);
            }
            return 0;
        }

        boolean ready(Po port, int priority) {
            Fr first = port.queues.get(priority).peek();
            boolean stopped = priority == 0 && port.paused;
            return first != null && !stopped && !(port.u < 8 && first.flow.waitUntil > time);
        }

        boolean sends(Po port) {
            for (Fr frame : frames) {
                if (frame.state == 2 && portOf(frame) == port) {
                    return true;
                }
            }
            return false;
        }

        void portChooses(Po port) {
            if (sends(port)) {
                return;
            }
            while (ready(port, 0) || ready(port, 1)) {
                int p = port.turn;
                if (ready(port, p) && port.queues.get(p).peek().length <= port.credit[p]) {
                    begin(port, p);
                    return;
                }
                if (!ready(port, p)) {
                    port.credit[p] = 0;
                }
                port.turn = p == 0 ? 1 : 0;
                if (ready(port, port.turn)) {
                    port.credit[port.turn] += quantum[port.turn];
                }
            }
        }

        void begin(Po port, int p) {
            Fr frame = port.queues.get(p).remove();
            port.credit[p] -= frame.length;
            frame.state = 2;
            frame.sendingBegan = time;
            if (port.u < 8) {
                int whole = 64 * frame.length / frame.flow.rate;
                boolean even = 64 * frame.length % frame.flow.rate == 0;
                frame.flow.waitUntil = time + whole + (even ? 0 : 1);
            }
        }
    }
}
