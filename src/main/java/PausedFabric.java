/**
 * A two-level fabric of hosts, leaves and spines in which switches ask their senders to pause,
 * mark frames where queues grow, and hosts slow down the flows that were marked.
 */
public final class PausedFabric {
    public static final int NONE = -1;

    private static final int HOSTS = 8;
    private static final int FIRST_LEAF = 8;
    private static final int FIRST_SPINE = 12;
    private static final int NODES = 14;
    private static final int PORTS = 32;
    private static final int PRIORITIES = 2;

    private static final int MOST_FLOWS = 12;
    private static final int MOST_FRAMES = 100;
    private static final int MOST_LENGTH = 4;
    private static final int MOST_QUANTUM = 8;
    private static final int MOST_TICKS = 20;
    private static final int MOST_DELAY = 8;

    /** Ten steps give a ready priority the credit for the longest frame, even from credit 0 and quantum 1. */
    private static final int MOST_STEPS = 64;

    private static final int FULL_RATE = 64;
    private static final int CALM_TICKS = 16;

    private static final int QUEUED = 1;
    private static final int SENDING = 2;
    private static final int SENT = 3;
    private static final int RECEIVED = 4;
    private static final int DROPPED = 5;

    private final int delay;
    private final int xoff;
    private final int room;
    private final int mark;
    private final int[] quantum = {1, 1};
    private final Port[] ports = makePorts();
    private final Flow[] flows = new Flow[MOST_FLOWS];
    private final Frame[] frames = new Frame[MOST_FRAMES];
    private int flowCount = 0;
    private int frameCount = 0;
    private int time = 0;

    public PausedFabric(int delay, int xoff, int room, int mark) {
        this.delay = nearest(delay, 1, MOST_DELAY);
        this.xoff = nearest(xoff, 4, 40);
        this.room = nearest(room, 0, 40);
        this.mark = nearest(mark, 1, 40);
    }

    public int flow(int from, int to, int priority) {
        if (!isHost(from) || !isHost(to) || from == to) {
            return NONE;
        }
        if (!isPriority(priority) || flowCount >= MOST_FLOWS) {
            return NONE;
        }
        int number = flowCount;
        flows[number] = new Flow(priority, routeOf(number, from, to));
        flowCount++;
        return number;
    }

    public boolean share(int priority, int quantum) {
        if (!isPriority(priority) || quantum < 1 || quantum > MOST_QUANTUM) {
            return false;
        }
        this.quantum[priority] = quantum;
        return true;
    }

    public int inject(int f, int length) {
        Flow flow = flowAt(f);
        if (flow == null || length < 1 || length > MOST_LENGTH || frameCount >= MOST_FRAMES) {
            return NONE;
        }
        int number = frameCount;
        Frame frame = new Frame(number, flow, length);
        frames[number] = frame;
        frameCount++;
        enqueue(frame);
        return number;
    }

    public int tick(int n) {
        if (n < 1 || n > MOST_TICKS) {
            return NONE;
        }
        int arrived = 0;
        for (int i = 0; i < n; i++) {
            arrived += makeTick();
        }
        return arrived;
    }

    public int clock() {
        return time;
    }

    public int state(int k) {
        Frame frame = frameAt(k);
        return frame == null ? NONE : frame.state;
    }

    public int node(int k) {
        Frame frame = frameAt(k);
        return frame == null ? NONE : frame.node;
    }

    public boolean marked(int k) {
        Frame frame = frameAt(k);
        return frame != null && frame.marked;
    }

    public int queued(int u, int v, int priority) {
        Port port = portBetween(u, v);
        return port == null || !isPriority(priority) ? NONE : port.queues[priority].length;
    }

    public int held(int u, int v, int priority) {
        Port port = portBetween(u, v);
        return port == null || !isPriority(priority) ? NONE : port.held[priority];
    }

    public boolean asks(int u, int v) {
        Port port = portBetween(u, v);
        return port != null && port.asked;
    }

    public boolean paused(int u, int v) {
        Port port = portBetween(u, v);
        return port != null && port.paused;
    }

    public int rate(int f) {
        Flow flow = flowAt(f);
        return flow == null ? 0 : flow.rate;
    }

    public int alpha(int f) {
        Flow flow = flowAt(f);
        return flow == null ? 0 : flow.alpha;
    }

    public int received(int f) {
        Flow flow = flowAt(f);
        return flow == null ? 0 : flow.received;
    }

    public int dropped(int f) {
        Flow flow = flowAt(f);
        return flow == null ? 0 : flow.dropped;
    }

    public int last(int f) {
        Flow flow = flowAt(f);
        return flow == null ? NONE : flow.last;
    }

    private static int nearest(int value, int low, int high) {
        return Math.max(low, Math.min(high, value));
    }

    private static boolean isHost(int node) {
        return node >= 0 && node < HOSTS;
    }

    private static boolean isPriority(int priority) {
        return priority >= 0 && priority < PRIORITIES;
    }

    private static int leafOf(int host) {
        return FIRST_LEAF + host / 2;
    }

    private static boolean areLinked(int u, int v) {
        int low = Math.min(u, v);
        int high = Math.max(u, v);
        return isHost(low) ? high == leafOf(low) : low < FIRST_SPINE && high >= FIRST_SPINE;
    }

    /** The order, by receiving node and then by sending node, is the order in which frames arrive. */
    private static Port[] makePorts() {
        Port[] ports = new Port[PORTS];
        int count = 0;
        for (int to = 0; to < NODES; to++) {
            for (int from = 0; from < NODES; from++) {
                if (areLinked(from, to) && count < PORTS) {
                    ports[count] = new Port(from, to);
                    count++;
                }
            }
        }
        return ports;
    }

    private Port portBetween(int u, int v) {
        for (Port port : ports) {
            if (port.from == u && port.to == v) {
                return port;
            }
        }
        return null;
    }

    private Flow flowAt(int f) {
        return f >= 0 && f < flowCount ? flows[f] : null;
    }

    private Frame frameAt(int k) {
        return k >= 0 && k < frameCount ? frames[k] : null;
    }

    private Port[] routeOf(int number, int from, int to) {
        int near = leafOf(from);
        int far = leafOf(to);
        if (near == far) {
            return new Port[] {portBetween(from, near), portBetween(near, to)};
        }
        int spine = FIRST_SPINE + Integer.bitCount(number) % 2;
        return new Port[] {
            portBetween(from, near), portBetween(near, spine), portBetween(spine, far), portBetween(far, to)
        };
    }

    /** Answers how many frames were received. */
    private int makeTick() {
        time++;
        for (Port port : ports) {
            port.paused = wasSo(port.askedBefore);
        }
        for (Port port : ports) {
            endSending(port);
        }
        for (int f = 0; f < flowCount; f++) {
            flows[f].adjustRate(wasSo(flows[f].markedBefore));
        }
        int arrived = 0;
        for (Port port : ports) {
            arrived += deliver(port);
        }
        for (Port port : ports) {
            choose(port);
        }
        remember();
        return arrived;
    }

    /** Whether a history, whose lowest bit is the tick before this one, has a 1 for the tick DELAY ticks before. */
    private boolean wasSo(int history) {
        return (history >> (delay - 1) & 1) == 1;
    }

    private static int withLatest(int history, boolean latest) {
        int kept = (1 << MOST_DELAY) - 1;
        return (history << 1 | (latest ? 1 : 0)) & kept;
    }

    private void remember() {
        for (Port port : ports) {
            port.askedBefore = withLatest(port.askedBefore, port.asked);
        }
        for (int f = 0; f < flowCount; f++) {
            Flow flow = flows[f];
            flow.markedBefore = withLatest(flow.markedBefore, flow.markedNow);
            flow.markedNow = false;
        }
    }

    private void endSending(Port port) {
        Frame frame = port.sending;
        if (frame == null || frame.due != time) {
            return;
        }
        port.sending = null;
        frame.state = SENT;
        frame.due = time + delay;
        port.wire.add(frame);
        if (frame.cameBy != null) {
            release(frame, frame.cameBy);
        }
    }

    private void release(Frame frame, Port cameBy) {
        int priority = frame.flow.priority;
        cameBy.held[priority] -= frame.length;
        if (priority == 0 && cameBy.held[0] <= xoff / 2) {
            cameBy.asked = false;
        }
    }

    /** Answers how many frames were received: 0 or 1, as no two frames of one port arrive at one time. */
    private int deliver(Port port) {
        Frame frame = port.wire.first;
        if (frame == null || frame.due != time) {
            return 0;
        }
        port.wire.removeFirst();
        frame.node = port.to;
        if (isHost(port.to)) {
            receive(frame);
            return 1;
        }
        if (hasPlace(port, frame)) {
            hold(port, frame);
        } else {
            drop(frame);
        }
        return 0;
    }

    private static void receive(Frame frame) {
        Flow flow = frame.flow;
        frame.state = RECEIVED;
        flow.received++;
        flow.last = frame.number;
        if (frame.marked) {
            flow.markedNow = true;
        }
    }

    private static void drop(Frame frame) {
        frame.state = DROPPED;
        frame.flow.dropped++;
    }

    private boolean hasPlace(Port port, Frame frame) {
        int priority = frame.flow.priority;
        int limit = priority == 0 ? xoff + room : xoff;
        return port.held[priority] + frame.length <= limit;
    }

    private void hold(Port port, Frame frame) {
        int priority = frame.flow.priority;
        port.held[priority] += frame.length;
        if (priority == 0 && port.held[0] >= xoff) {
            port.asked = true;
        }
        frame.cameBy = port;
        frame.hop++;
        if (enqueue(frame) > mark) {
            frame.marked = true;
        }
    }

    /** Answers the length of the queue with the frame in it. */
    private static int enqueue(Frame frame) {
        Port port = frame.flow.portAt(frame.hop);
        if (port == null) {
            return 0;
        }
        FrameQueue queue = port.queues[frame.flow.priority];
        frame.state = QUEUED;
        frame.node = port.from;
        queue.add(frame);
        return queue.length;
    }

    private void choose(Port port) {
        if (port.sending != null) {
            return;
        }
        for (int step = 0; step < MOST_STEPS; step++) {
            int turn = port.turn;
            int other = 1 - turn;
            Frame own = readyFrame(port, turn);
            Frame others = readyFrame(port, other);
            if (own == null && others == null) {
                return;
            }
            if (own != null && own.length <= port.credit[turn]) {
                beginSending(port, own);
                return;
            }
            if (own == null) {
                port.credit[turn] = 0;
            }
            port.turn = other;
            if (others != null) {
                port.credit[other] += quantum[other];
            }
        }
    }

    /** The first frame of the queue for a priority, or null when that priority is not ready. */
    private Frame readyFrame(Port port, int priority) {
        Frame first = port.queues[priority].first;
        if (first == null || priority == 0 && port.paused) {
            return null;
        }
        return isHost(port.from) && time < first.flow.waitsUntil ? null : first;
    }

    private void beginSending(Port port, Frame frame) {
        Flow flow = frame.flow;
        port.queues[flow.priority].removeFirst();
        port.credit[flow.priority] -= frame.length;
        port.sending = frame;
        frame.state = SENDING;
        frame.due = time + frame.length;
        if (isHost(port.from)) {
            flow.waitFrom(time, frame.length);
        }
    }

    /** The port from one node to another, with what the node at its end has to say to it. */
    private static final class Port {
        final int from;
        final int to;
        final FrameQueue[] queues = {new FrameQueue(), new FrameQueue()};
        final int[] credit = {0, 0};
        int turn = 0;
        Frame sending = null;

        /** The frames that were sent and did not arrive, in the order in which they will. */
        final FrameQueue wire = new FrameQueue();

        /** By priority, what the switch at the end of this port holds of the frames that came by it. */
        final int[] held = {0, 0};
        boolean asked = false;
        int askedBefore = 0;
        boolean paused = false;

        Port(int from, int to) {
            this.from = from;
            this.to = to;
        }
    }

    private static final class Flow {
        final int priority;
        final Port[] route;
        int rate = FULL_RATE;
        int target = FULL_RATE;
        int alpha = FULL_RATE;
        int calm = 0;
        int waitsUntil = 0;
        boolean markedNow = false;
        int markedBefore = 0;
        int received = 0;
        int dropped = 0;
        int last = NONE;

        Flow(int priority, Port[] route) {
            this.priority = priority;
            this.route = route;
        }

        Port portAt(int hop) {
            return hop >= 0 && hop < route.length ? route[hop] : null;
        }

        /** The rate never falls below 1, so that it may divide. */
        void waitFrom(int start, int length) {
            waitsUntil = start + (FULL_RATE * length + rate - 1) / rate;
        }

        void adjustRate(boolean told) {
            if (told) {
                slowDown();
                return;
            }
            calm++;
            if (calm == CALM_TICKS) {
                recover();
            }
        }

        void slowDown() {
            target = rate;
            rate = Math.max(1, rate - rate * alpha / 128);
            alpha = (15 * alpha + 64) / 16;
            calm = 0;
        }

        void recover() {
            calm = 0;
            alpha = 15 * alpha / 16;
            rate = (rate + target + 1) / 2;
        }
    }

    private static final class Frame {
        final int number;
        final Flow flow;
        final int length;
        int state = QUEUED;
        int node = NONE;
        boolean marked = false;

        /** Which port of the route it is queued at, or was sent by. */
        int hop = 0;

        /** The port whose HELD counts it; null at its first host. */
        Port cameBy = null;

        /** The time at which its sending ends, or, when that has ended, at which it arrives. */
        int due = 0;
        Frame next = null;

        Frame(int number, Flow flow, int length) {
            this.number = number;
            this.flow = flow;
            this.length = length;
        }
    }

    /** Chained through the frames, as a frame is in one queue or on one wire at a time. */
    private static final class FrameQueue {
        Frame first = null;
        Frame end = null;
        int length = 0;

        void add(Frame frame) {
            frame.next = null;
            if (end == null) {
                first = frame;
            } else {
                end.next = frame;
            }
            end = frame;
            length += frame.length;
        }

        void removeFirst() {
            Frame frame = first;
            if (frame == null) {
                return;
            }
            first = frame.next;
            if (first == null) {
                end = null;
            }
            frame.next = null;
            length -= frame.length;
        }
    }
}
