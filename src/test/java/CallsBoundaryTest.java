/**
 * The boundary cases that promises 1 to 18 name: the refusals, the empty cases and the limits of
 * each call, a function for each sentence, in the order of the promises; and that a call that is
 * refused changes nothing.
 */
public final class CallsBoundaryTest {
    private static final int NONE = -1;
    private static final int LEAST = Integer.MIN_VALUE;
    private static final int GREATEST = Integer.MAX_VALUE;
    private static int wrong = 0;

    public static void main(String[] args) {
        newObject();
        flow();
        share();
        inject();
        tick();
        clock();
        stateAndNode();
        marked();
        queuedAndHeld();
        asksAndPaused();
        rateAndAlpha();
        counts();
        refusals();
        if (wrong != 0) {
            System.out.println(wrong + " answers are not as due");
            System.exit(1);
        }
    }

    private static void newObject() {
        hasNoFlowsAndFrames();
        delayIsTakenAsNearest();
        xoffBelowItsRange();
        xoffAboveItsRange();
        roomBelowItsRange();
        roomAboveItsRange();
        markBelowItsRange();
        markAboveItsRange();
    }

    private static void flow() {
        flowFromAndToAreHosts();
        flowFromIsNotTo();
        flowHasPriority0Or1();
        flowsBetweenTheSameHosts();
        thirteenthFlow();
    }

    private static void share() {
        shareOfPriority0Or1();
        shareOfQuantum1To8();
        shareLeavesCredits();
        shareIsForOnePriorityAtAllPorts();
    }

    private static void inject() {
        injectOfAFlow();
        injectOfLength1To4();
        injectedIsSentInTheNextTick();
        frame101();
    }

    private static void tick() {
        ticks1To20();
        manyTicksAreAsManySingleOnes();
        tickCountsWhatIsReceived();
        tickDoesNotCountWhatIsDropped();
    }

    private static void stateAndNode() {
        stateAndNodeOfNoFrame();
        stateAndNodeOnTheWay();
        stateAndNodeOfDropped();
    }

    private static void queuedAndHeld() {
        queuedOfNoPort();
        queuedOfNoPriority();
        heldOfNoPort();
        heldOfNoPriority();
        heldAtAHost();
    }

    private static void asksAndPaused() {
        asksOfNoPort();
        asksOfAHost();
        pausedOfNoPort();
        pausedBeforeATick();
        pausedInTheLatestTick();
    }

    private static void rateAndAlpha() {
        rateOfNoFlow();
        alphaOfNoFlow();
    }

    private static void counts() {
        receivedOfNoFlow();
        droppedOfNoFlow();
        lastOfNoFlow();
        lastWhenNoneWasReceived();
        countsAreByFlow();
    }

    private static void refusals() {
        for (int which = 0; which < REFUSALS; which++) {
            refusedChangesNothing(which);
        }
        refusedAtTheLimitsChangesNothing();
        askingForAnswersChangesNothing();
    }

    private static void due(String what, long got, long want) {
        if (got != want) {
            wrong++;
            System.out.println(what + " answered " + got + ", due is " + want);
        }
    }

    private static void due(String what, boolean got, boolean want) {
        due(what, got ? 1 : 0, want ? 1 : 0);
    }

    private static void injectMany(PausedFabric x, int f, int length, int count) {
        for (int i = 0; i < count; i++) {
            x.inject(f, length);
        }
    }

    /** Makes ticks up to a time that is not yet past, and answers how many frames were received. */
    private static int advance(PausedFabric x, int time) {
        int received = 0;
        int left = time - x.clock();
        while (left > 0) {
            int n = Math.min(20, left);
            received += x.tick(n);
            left -= n;
        }
        return received;
    }

    /** A fabric with one flow, from host 0 to host 1. */
    private static PausedFabric withOneFlow(int delay, int xoff, int room, int mark, int priority) {
        PausedFabric x = new PausedFabric(delay, xoff, room, mark);
        due("the first flow", x.flow(0, 1, priority), 0);
        return x;
    }

    /** Promise 1: "A fabric without flows and frames". */
    private static void hasNoFlowsAndFrames() {
        PausedFabric x = new PausedFabric(1, 4, 0, 1);
        due("clock", x.clock(), 0);
        due("state(0)", x.state(0), NONE);
        due("node(0)", x.node(0), NONE);
        due("marked(0)", x.marked(0), false);
        due("rate(0)", x.rate(0), 0);
        due("alpha(0)", x.alpha(0), 0);
        due("received(0)", x.received(0), 0);
        due("dropped(0)", x.dropped(0), 0);
        due("last(0)", x.last(0), NONE);
        due("inject(0, 1)", x.inject(0, 1), NONE);
        due("tick(20)", x.tick(20), 0);
        due("clock after it", x.clock(), 20);
        due("flow(0, 1, 0)", x.flow(0, 1, 0), 0);
        due("inject after it", x.inject(0, 1), 0);
    }

    /** Promise 1: "a delay (1 .. 8) .. A number out of its range is taken as the nearest one in it." */
    private static void delayIsTakenAsNearest() {
        int[] given = {LEAST, -1, 0, 1, 2, 7, 8, 9, 10, 16, 33, GREATEST};
        int[] taken = {1, 1, 1, 1, 2, 7, 8, 8, 8, 8, 8, 8};
        for (int i = 0; i < given.length; i++) {
            PausedFabric x = withOneFlow(given[i], 4, 40, 1, 0);
            x.inject(0, 4);
            int delay = taken[i];
            String with = "delay " + given[i] + ": ";
            due(with + "received before its time", advance(x, 8 + 2 * delay), 0);
            due(with + "received", advance(x, 9 + 2 * delay), 1);
            advance(x, 8 + 3 * delay);
            due(with + "rate before it is told", x.rate(0), 64);
            advance(x, 9 + 3 * delay);
            due(with + "rate when it is told", x.rate(0), delay <= 2 ? 32 : delay <= 7 ? 34 : 36);
        }
    }

    /** Promise 1: "an xoff (4 .. 40)": less is 4, of which 2 is the half. */
    private static void xoffBelowItsRange() {
        int[] given = {LEAST, -41, -1, 0, 3, 4};
        for (int xoff : given) {
            due("xoff " + xoff + " asks with 3", asksWith(xoff, 3, 1, 5), false);
            due("xoff " + xoff + " asks with 3 and 1", asksWith(xoff, 3, 1, 6), true);
            due("xoff " + xoff + " asks with 4", asksWith(xoff, 4, 1, 6), true);
            due("xoff " + xoff + " asks with 3 when 4 are gone", asksWith(xoff, 4, 3, 10), true);
            due("xoff " + xoff + " asks with 2 when 4 are gone", asksWith(xoff, 4, 2, 10), false);
            PausedFabric x = withOneFlow(1, xoff, 0, 40, 1);
            x.inject(0, 4);
            x.inject(0, 1);
            advance(x, 7);
            due("xoff " + xoff + " has place for 4", x.state(0), 2);
            due("xoff " + xoff + " has no place for 5", x.state(1), 5);
        }
    }

    /** Does leaf 8 ask host 0 at a time, when frames of these lengths followed each other? */
    private static boolean asksWith(int xoff, int first, int second, int time) {
        PausedFabric x = withOneFlow(1, xoff, 40, 40, 0);
        x.inject(0, first);
        x.inject(0, second);
        advance(x, time);
        return x.asks(0, 8);
    }

    /**
     * Three senders of frames of priority 1 and this length for host 6: the most that leaf 11 holds
     * from spine 12.
     */
    private static int mostHeld(int xoff, int length) {
        PausedFabric x = new PausedFabric(8, xoff, 0, 40);
        x.flow(0, 6, 1);
        x.flow(2, 6, 1);
        x.flow(7, 6, 1);
        for (int f = 0; f < 3; f++) {
            injectMany(x, f, length, f < 2 ? 34 : 32);
        }
        int most = 0;
        advance(x, 40);
        for (int i = 0; i < 150; i++) {
            x.tick(1);
            most = Math.max(most, x.held(12, 11, 1));
        }
        return most;
    }

    /** Promise 1: "an xoff (4 .. 40)": more is 40. */
    private static void xoffAboveItsRange() {
        int[] given = {40, 41, 42, 60, GREATEST};
        for (int xoff : given) {
            due("xoff " + xoff + " with frames of 4", mostHeld(xoff, 4), 40);
            due("xoff " + xoff + " with frames of 3", mostHeld(xoff, 3), 39);
        }
        due("xoff 39 with frames of 4", mostHeld(39, 4), 36);
        due("xoff 39 with frames of 3", mostHeld(39, 3), 39);
    }

    /** Promise 1: "a room (0 .. 40)": less is 0, so that 4 and 1 are one too many for xoff 4 and fit into 5. */
    private static void roomBelowItsRange() {
        int[] given = {LEAST, -40, -2, -1, 0};
        for (int room : given) {
            for (int xoff = 4; xoff <= 5; xoff++) {
                PausedFabric x = withOneFlow(1, xoff, room, 40, 0);
                x.inject(0, 4);
                x.inject(0, 1);
                advance(x, 7);
                due("room " + room + ", the first", x.state(0), 2);
                due("room " + room + ", xoff " + xoff + ", the second", x.state(1), xoff == 4 ? 5 : 1);
            }
        }
    }

    /**
     * Promise 1: "a room (0 .. 40)": more is 40. No room is ever used beyond 22, which is what may
     * come at the greatest delay: 3 when leaf 8 begins to ask, and 19 before host 0 is paused.
     */
    private static void roomAboveItsRange() {
        int[] given = {22, 23, 39, 40, 41, 42, 1000, GREATEST - 4, GREATEST - 3, GREATEST};
        for (int room : given) {
            PausedFabric x = burstAtLeaf8(room);
            due("room " + room + ", held", x.held(0, 8, 0), 26);
            due("room " + room + ", dropped", x.dropped(2), 0);
            due("room " + room + ", the last", x.state(16), 1);
        }
        PausedFabric y = burstAtLeaf8(21);
        due("room 21, held", y.held(0, 8, 0), 22);
        due("room 21, dropped", y.dropped(2), 1);
        due("room 21, the last", y.state(16), 5);
    }

    /**
     * Both spines bring 20 for host 1 to leaf 8, from 37 to 53, of which 23 are left at 54, when the
     * first frame of host 0 for host 1 arrives. With the second, at 58, leaf 8 asks host 0, which
     * begins to send its last frame at 65 and is paused from 66 on. At 77 all of them have arrived
     * and the sending of the first begins.
     */
    private static PausedFabric burstAtLeaf8(int room) {
        PausedFabric x = new PausedFabric(8, 4, room, 40);
        x.flow(2, 1, 0);
        x.flow(4, 1, 0);
        x.flow(0, 1, 0);
        injectMany(x, 0, 4, 5);
        injectMany(x, 1, 4, 5);
        advance(x, 42);
        int[] lengths = {3, 4, 3, 4, 4, 4, 4};
        for (int length : lengths) {
            x.inject(2, length);
        }
        advance(x, 57);
        due("asks at 57", x.asks(0, 8), false);
        advance(x, 58);
        due("asks at 58", x.asks(0, 8), true);
        advance(x, 65);
        due("the last is sent at 65", x.state(16), 2);
        due("paused at 65", x.paused(0, 8), false);
        advance(x, 66);
        due("paused at 66", x.paused(0, 8), true);
        advance(x, 77);
        due("the first is sent on at 77", x.state(10), 2);
        return x;
    }

    /** Promise 1: "a mark (1 .. 40)": less is 1, so that a queue of 1 does not mark and one of 2 does. */
    private static void markBelowItsRange() {
        int[] given = {LEAST, -1, 0, 1};
        for (int mark : given) {
            PausedFabric x = withOneFlow(1, 40, 40, mark, 0);
            x.inject(0, 1);
            advance(x, 5);
            due("mark " + mark + ", length 1", x.marked(0), false);
            x.inject(0, 2);
            advance(x, 12);
            due("mark " + mark + ", length 2", x.marked(1), true);
        }
    }

    /**
     * Promise 1: "a mark (1 .. 40)": more is 40. Two senders make the queue of leaf 11 longer by 1
     * with each tick: frame i of the first arrives as its length i + 1, and that of the second as i + 2.
     */
    private static void markAboveItsRange() {
        int[] given = {39, 40, 41, 42, 100, GREATEST};
        for (int mark : given) {
            PausedFabric x = new PausedFabric(1, 40, 40, mark);
            x.flow(0, 6, 0);
            x.flow(2, 6, 0);
            injectMany(x, 0, 1, 50);
            injectMany(x, 1, 1, 50);
            advance(x, 80);
            int taken = Math.min(40, mark);
            due("mark " + mark + ", a queue of its length", x.marked(taken - 1), false);
            due("mark " + mark + ", a queue longer by 1", x.marked(taken), true);
            due("mark " + mark + ", the second sender", x.marked(50 + taken - 2), false);
            due("mark " + mark + ", the second sender, longer by 1", x.marked(50 + taken - 1), true);
        }
    }

    private static final int[] NO_HOSTS = {LEAST, -8, -1, 8, 9, 11, 12, 13, 14, 16, GREATEST};

    /** Promise 2: "Refused, NONE: from or to is no host". */
    private static void flowFromAndToAreHosts() {
        PausedFabric x = new PausedFabric(1, 8, 8, 8);
        for (int node : NO_HOSTS) {
            due("flow(" + node + ", 0, 0)", x.flow(node, 0, 0), NONE);
            due("flow(7, " + node + ", 1)", x.flow(7, node, 1), NONE);
            due("flow(" + node + ", " + node + ", 0)", x.flow(node, node, 0), NONE);
        }
        due("rate of no flow", x.rate(0), 0);
        due("flow(0, 7, 0)", x.flow(0, 7, 0), 0);
        due("flow(7, 0, 1)", x.flow(7, 0, 1), 1);
        for (int host = 1; host < 7; host++) {
            due("flow to " + host, x.flow(0, host, 0), host + 1);
        }
        for (int host = 3; host < 7; host++) {
            due("flow from " + host, x.flow(host, 7, 1), host + 5);
        }
    }

    /** Promise 2: "Refused, NONE: .. from is to". */
    private static void flowFromIsNotTo() {
        PausedFabric x = new PausedFabric(1, 8, 8, 8);
        for (int host = 0; host < 8; host++) {
            due("flow(" + host + ", " + host + ", 0)", x.flow(host, host, 0), NONE);
            due("flow(" + host + ", " + host + ", 1)", x.flow(host, host, 1), NONE);
        }
        due("no flow was added", x.flow(0, 1, 0), 0);
    }

    private static final int[] NO_PRIORITIES = {LEAST, -2, -1, 2, 3, GREATEST};

    /** Promise 2: "Refused, NONE: .. priority is not 0 or 1". */
    private static void flowHasPriority0Or1() {
        PausedFabric x = new PausedFabric(1, 8, 8, 8);
        for (int priority : NO_PRIORITIES) {
            due("flow(0, 1, " + priority + ")", x.flow(0, 1, priority), NONE);
        }
        due("flow(0, 1, 0)", x.flow(0, 1, 0), 0);
        due("flow(0, 1, 1)", x.flow(0, 1, 1), 1);
        x.inject(0, 1);
        x.inject(1, 2);
        due("queue of priority 0", x.queued(0, 8, 0), 1);
        due("queue of priority 1", x.queued(0, 8, 1), 2);
    }

    /** Promise 2: "(Also between two hosts that have one.)": each has its own number, route and rate. */
    private static void flowsBetweenTheSameHosts() {
        PausedFabric x = new PausedFabric(1, 40, 40, 1);
        due("first", x.flow(0, 7, 0), 0);
        due("second", x.flow(0, 7, 0), 1);
        x.inject(1, 2);
        advance(x, 30);
        due("received(0)", x.received(0), 0);
        due("received(1)", x.received(1), 1);
        due("rate(0)", x.rate(0), 64);
        due("rate(1) is not what it was", x.rate(1) < 64, true);
    }

    /** Promise 2: "Refused, NONE: .. 12 flows are there." */
    private static void thirteenthFlow() {
        PausedFabric x = new PausedFabric(1, 8, 8, 8);
        for (int f = 0; f < 12; f++) {
            due("flow " + f, x.flow(f % 8, (f + 3) % 8, f % 2), f);
        }
        due("flow 12", x.flow(0, 1, 0), NONE);
        due("flow 12 again", x.flow(0, 1, 1), NONE);
        due("rate(11)", x.rate(11), 64);
        due("rate(12)", x.rate(12), 0);
        due("inject of the last flow", x.inject(11, 4), 0);
        due("inject of none", x.inject(12, 4), NONE);
        due("the last flow works", advance(x, 40), 1);
        due("received(11)", x.received(11), 1);
        due("no place later either", x.flow(0, 1, 0), NONE);
    }

    /** Promise 3: "Refused, false: priority is not 0 or 1". */
    private static void shareOfPriority0Or1() {
        PausedFabric x = new PausedFabric(1, 8, 8, 8);
        for (int priority : NO_PRIORITIES) {
            due("share(" + priority + ", 1)", x.share(priority, 1), false);
            due("share(" + priority + ", 8)", x.share(priority, 8), false);
        }
        due("share(0, 3)", x.share(0, 3), true);
        due("share(1, 3)", x.share(1, 3), true);
        due("share(1, 3) again", x.share(1, 3), true);
    }

    /** Promise 3: "Refused, false: .. quantum is not 1 .. 8." */
    private static void shareOfQuantum1To8() {
        PausedFabric x = new PausedFabric(1, 8, 8, 8);
        int[] refused = {LEAST, -8, -1, 0, 9, 10, 16, GREATEST};
        for (int priority = 0; priority < 2; priority++) {
            for (int quantum : refused) {
                due("share(" + priority + ", " + quantum + ")", x.share(priority, quantum), false);
            }
            for (int quantum = 1; quantum <= 8; quantum++) {
                due("share(" + priority + ", " + quantum + ")", x.share(priority, quantum), true);
            }
        }
    }

    /**
     * Promise 3: "(Credits stay.)": of the credit 8 the frame of length 2 leaves 6, which the frames
     * of 4 and 2 use up.
     */
    private static void shareLeavesCredits() {
        PausedFabric x = withOneFlow(1, 40, 40, 40, 0);
        x.flow(0, 1, 1);
        x.share(1, 8);
        x.inject(1, 2);
        advance(x, 1);
        due("share to 1", x.share(1, 1), true);
        x.inject(0, 1);
        x.inject(1, 4);
        x.inject(1, 2);
        x.inject(1, 1);
        advance(x, 3);
        due("the 4 of priority 1", x.state(2), 2);
        advance(x, 7);
        due("the 2 of priority 1", x.state(3), 2);
        advance(x, 9);
        due("the last of priority 1 has no credit", x.state(4), 1);
        due("priority 0", x.state(1), 2);
        advance(x, 10);
        due("the last of priority 1 with a new quantum", x.state(4), 2);
    }

    /** Promise 3: "The quantum of a priority becomes this one", "the same at all ports". */
    private static void shareIsForOnePriorityAtAllPorts() {
        PausedFabric x = new PausedFabric(1, 40, 40, 40);
        int[] froms = {0, 0, 2, 2, 7, 7};
        for (int i = 0; i < froms.length; i++) {
            x.flow(froms[i], froms[i] == 7 ? 6 : 1 + froms[i], i % 2);
        }
        x.share(0, 3);
        for (int f = 0; f < 6; f++) {
            injectMany(x, f, 1, 12);
        }
        for (int t = 1; t <= 12; t++) {
            x.tick(1);
            int left1 = 12 - (t + 3) / 4;
            int left0 = 12 - (t - (t + 3) / 4);
            for (int f = 0; f < 6; f += 2) {
                int leaf = 8 + froms[f] / 2;
                due("priority 0 at " + t, x.queued(froms[f], leaf, 0), left0);
                due("priority 1 at " + t, x.queued(froms[f], leaf, 1), left1);
            }
        }
    }

    /** Promise 4: "Refused, NONE: f is no flow". */
    private static void injectOfAFlow() {
        PausedFabric x = new PausedFabric(1, 8, 8, 8);
        int[] none = {LEAST, -12, -1, 0, 1, 11, 12, 13, 100, GREATEST};
        for (int f : none) {
            due("inject(" + f + ", 1) without flows", x.inject(f, 1), NONE);
        }
        x.flow(0, 1, 0);
        x.flow(0, 1, 0);
        int[] beyond = {LEAST, -1, 2, 3, 11, 12, GREATEST};
        for (int f : beyond) {
            due("inject(" + f + ", 1) with two", x.inject(f, 1), NONE);
        }
        due("inject(0, 1)", x.inject(0, 1), 0);
        due("inject(1, 1)", x.inject(1, 1), 1);
    }

    /** Promise 4: "Refused, NONE: .. length is not 1 .. 4". */
    private static void injectOfLength1To4() {
        PausedFabric x = withOneFlow(1, 8, 8, 8, 0);
        int[] refused = {LEAST, -4, -1, 0, 5, 6, 8, GREATEST};
        for (int length : refused) {
            due("inject(0, " + length + ")", x.inject(0, length), NONE);
        }
        due("nothing is queued", x.queued(0, 8, 0), 0);
        for (int length = 1; length <= 4; length++) {
            due("inject(0, " + length + ")", x.inject(0, length), length - 1);
        }
        due("all is queued", x.queued(0, 8, 0), 10);
    }

    /** Promise 4: "it is put into its queue at the first host. (It may be sent in the next tick.)" */
    private static void injectedIsSentInTheNextTick() {
        PausedFabric x = withOneFlow(1, 8, 8, 8, 1);
        advance(x, 37);
        x.inject(0, 4);
        due("state", x.state(0), 1);
        due("node", x.node(0), 0);
        due("queue", x.queued(0, 8, 1), 4);
        advance(x, 38);
        due("state in the next tick", x.state(0), 2);
        due("queue in the next tick", x.queued(0, 8, 1), 0);
        x.inject(0, 1);
        advance(x, 41);
        due("not while another one is sent", x.state(1), 1);
        advance(x, 42);
        due("but then", x.state(1), 2);
    }

    /** Promise 4: "Refused, NONE: .. 100 frames are there": those that are received or dropped are there too. */
    private static void frame101() {
        PausedFabric x = withOneFlow(1, 4, 0, 40, 1);
        x.flow(2, 3, 0);
        int received = 0;
        for (int k = 0; k < 100; k++) {
            due("inject " + k, x.inject(k < 50 ? 0 : 1, 1 + k % 4), k);
            if (k % 10 == 9) {
                received += x.tick(20);
            }
        }
        due("inject 100", x.inject(0, 1), NONE);
        for (int i = 0; i < 30; i++) {
            received += x.tick(20);
        }
        int dropped = x.dropped(0) + x.dropped(1);
        due("all are received or dropped", received + dropped, 100);
        due("some are dropped", dropped > 0, true);
        due("inject 100 when all are gone", x.inject(1, 1), NONE);
        due("the last one", x.state(99), 4);
        due("none", x.state(100), NONE);
        due("last(1)", x.last(1), 99);
    }

    /** Promise 5: "Makes n ticks .. Refused, NONE: n is not 1 .. 20." */
    private static void ticks1To20() {
        PausedFabric x = withOneFlow(1, 8, 8, 8, 0);
        int time = 0;
        int[] refused = {LEAST, -20, -1, 0, 21, 22, 100, GREATEST};
        for (int n = 1; n <= 20; n++) {
            for (int bad : refused) {
                due("tick(" + bad + ")", x.tick(bad), NONE);
            }
            due("clock after refused ticks", x.clock(), time);
            due("tick(" + n + ")", x.tick(n), 0);
            time += n;
            due("clock after tick(" + n + ")", x.clock(), time);
        }
    }

    /** Promise 5: "Makes n ticks": 20 of them at once, or one by one. */
    private static void manyTicksAreAsManySingleOnes() {
        PausedFabric atOnce = busyFabric();
        PausedFabric oneByOne = busyFabric();
        int received = 0;
        for (int i = 0; i < 20; i++) {
            received += oneByOne.tick(1);
        }
        due("received", atOnce.tick(20), received);
        due("some are received", received > 0, true);
        compare("20 ticks", atOnce, oneByOne);
    }

    /**
     * Promise 5: "Answers how many frames were received in them": of all flows, none, one, or one by
     * each host in a tick.
     */
    private static void tickCountsWhatIsReceived() {
        PausedFabric x = new PausedFabric(1, 40, 40, 40);
        for (int host = 0; host < 8; host++) {
            x.flow(host, host % 2 == 0 ? host + 1 : host - 1, host / 2 % 2);
            injectMany(x, host, 1, 3);
        }
        due("tick(4)", x.tick(4), 0);
        due("the 5th tick", x.tick(1), 8);
        due("the 6th and the 7th", x.tick(2), 16);
        due("the next 20", x.tick(20), 0);
        x.inject(3, 1);
        due("up to the last before it", x.tick(4), 0);
        due("the last one", x.tick(20), 1);
        due("after it", x.tick(20), 0);
    }

    /** Promise 5: what is dropped is not received, and what arrives at a switch is not either. */
    private static void tickDoesNotCountWhatIsDropped() {
        PausedFabric x = withOneFlow(1, 4, 0, 40, 1);
        x.inject(0, 4);
        x.inject(0, 2);
        due("the arrivals at the leaf", x.tick(9), 0);
        due("dropped", x.dropped(0), 1);
        due("the arrival at the host", x.tick(20), 1);
    }

    /** Promise 6: "The time." */
    private static void clock() {
        PausedFabric x = new PausedFabric(8, 8, 8, 8);
        due("at first", x.clock(), 0);
        x.tick(1);
        due("after one", x.clock(), 1);
        due("asked again", x.clock(), 1);
        x.tick(20);
        due("after 20 more", x.clock(), 21);
        x.tick(0);
        x.tick(21);
        due("after refused calls", x.clock(), 21);
    }

    private static final int[] NO_FRAMES = {LEAST, -100, -1, 2, 3, 99, 100, 101, GREATEST};

    /** Promises 7 and 8: "NONE when there is none", "NONE when there is no such frame". */
    private static void stateAndNodeOfNoFrame() {
        PausedFabric x = withOneFlow(1, 8, 8, 8, 0);
        due("state(0) before it is there", x.state(0), NONE);
        due("node(0) before it is there", x.node(0), NONE);
        injectMany(x, 0, 1, 2);
        for (int k : NO_FRAMES) {
            due("state(" + k + ")", x.state(k), NONE);
            due("node(" + k + ")", x.node(k), NONE);
        }
        due("state(1)", x.state(1), 1);
        due("node(1)", x.node(1), 0);
    }

    /**
     * Promises 7 and 8: "1 in a queue, 2 being sent, 3 sent and not arrived, 4 received", and the
     * node of each.
     */
    private static void stateAndNodeOnTheWay() {
        PausedFabric x = new PausedFabric(2, 40, 40, 40);
        x.flow(3, 4, 0);
        x.inject(0, 2);
        int[] nodes = {3, 9, 12, 10};
        due("state at 0", x.state(0), 1);
        due("node at 0", x.node(0), 3);
        for (int t = 1; t <= 16; t++) {
            x.tick(1);
            due("state at " + t, x.state(0), (t - 1) % 4 < 2 ? 2 : 3);
            due("node at " + t, x.node(0), nodes[(t - 1) / 4]);
        }
        for (int t = 17; t <= 19; t++) {
            due("received at " + t, x.tick(1), t == 17 ? 1 : 0);
            due("state at " + t, x.state(0), 4);
            due("node at " + t, x.node(0), 4);
        }
        x.flow(2, 4, 0);
        x.flow(2, 4, 0);
        x.flow(2, 4, 0);
        x.inject(0, 2);
        x.inject(3, 2);
        x.tick(5);
        due("the frame of host 2 is first at leaf 9", x.state(2), 2);
        due("that of host 3 is in its queue", x.state(1), 1);
        due("node", x.node(1), 9);
    }

    /** Promises 7 and 8: "5 dropped", "was dropped". */
    private static void stateAndNodeOfDropped() {
        PausedFabric x = new PausedFabric(1, 4, 0, 40);
        x.flow(6, 7, 0);
        x.inject(0, 4);
        x.inject(0, 3);
        advance(x, 8);
        due("state before", x.state(1), 3);
        due("node before", x.node(1), 6);
        advance(x, 9);
        due("state", x.state(1), 5);
        due("node", x.node(1), 11);
        advance(x, 49);
        due("state later", x.state(1), 5);
        due("node later", x.node(1), 11);
    }

    /** Promise 9: "false when there is none". */
    private static void marked() {
        PausedFabric x = withOneFlow(1, 40, 40, 1, 0);
        due("marked(0) before it is there", x.marked(0), false);
        x.inject(0, 4);
        x.inject(0, 4);
        advance(x, 20);
        for (int k : NO_FRAMES) {
            due("marked(" + k + ")", x.marked(k), false);
        }
        due("marked(0)", x.marked(0), true);
        due("marked(1)", x.marked(1), true);
    }

    private static final int[][] NO_PORTS = {
        {0, 0}, {0, 1}, {1, 0}, {0, 9}, {9, 0}, {2, 8}, {8, 2}, {0, 12}, {12, 0}, {7, 13}, {13, 7}, {7, 10}, {10, 7},
        {8, 8}, {8, 9}, {9, 8}, {11, 8}, {12, 12}, {12, 13}, {13, 12}, {-1, 8}, {8, -1}, {-1, -1}, {-1, 0}, {0, -1},
        {14, 8}, {8, 14}, {14, 14}, {13, 14}, {14, 13}, {7, 12}, {LEAST, 8}, {8, LEAST}, {GREATEST, 8}, {8, GREATEST},
        {LEAST, LEAST}, {GREATEST, GREATEST}, {0, 8 + 14}, {14, 9}, {16, 16}, {0, 10}, {6, 10}, {4, 11}, {4, 9}
    };

    /** A fabric in which leaf 8 asks host 0, and host 0 is paused, at the time 7. */
    private static PausedFabric withPause() {
        PausedFabric x = withOneFlow(1, 4, 40, 40, 0);
        x.inject(0, 4);
        x.inject(0, 4);
        x.inject(0, 3);
        advance(x, 7);
        return x;
    }

    /** Promise 10: "NONE when there is no such port". */
    private static void queuedOfNoPort() {
        PausedFabric x = withPause();
        for (int[] pair : NO_PORTS) {
            due("queued(" + pair[0] + ", " + pair[1] + ", 0)", x.queued(pair[0], pair[1], 0), NONE);
            due("queued(" + pair[0] + ", " + pair[1] + ", 1)", x.queued(pair[0], pair[1], 1), NONE);
        }
        due("queued(0, 8, 0)", x.queued(0, 8, 0), 3);
        due("queued(8, 0, 0)", x.queued(8, 0, 0), 0);
    }

    /** Promise 10: "NONE when there is no such .. priority". */
    private static void queuedOfNoPriority() {
        PausedFabric x = withPause();
        for (int priority : NO_PRIORITIES) {
            due("queued(0, 8, " + priority + ")", x.queued(0, 8, priority), NONE);
            due("queued(8, 0, " + priority + ")", x.queued(8, 0, priority), NONE);
            due("queued(13, 11, " + priority + ")", x.queued(13, 11, priority), NONE);
            due("queued(0, 0, " + priority + ")", x.queued(0, 0, priority), NONE);
        }
        due("queued(0, 8, 1)", x.queued(0, 8, 1), 0);
    }

    /** Promise 11: "NONE when there is no such port", also when v is a host. */
    private static void heldOfNoPort() {
        PausedFabric x = withPause();
        for (int[] pair : NO_PORTS) {
            due("held(" + pair[0] + ", " + pair[1] + ", 0)", x.held(pair[0], pair[1], 0), NONE);
            due("held(" + pair[0] + ", " + pair[1] + ", 1)", x.held(pair[0], pair[1], 1), NONE);
        }
        due("held(0, 8, 0)", x.held(0, 8, 0), 4);
        due("held(0, 8, 1)", x.held(0, 8, 1), 0);
    }

    /** Promise 11: "NONE when there is no such .. priority", also when v is a host. */
    private static void heldOfNoPriority() {
        PausedFabric x = withPause();
        for (int priority : NO_PRIORITIES) {
            due("held(0, 8, " + priority + ")", x.held(0, 8, priority), NONE);
            due("held(8, 1, " + priority + ")", x.held(8, 1, priority), NONE);
            due("held(8, 12, " + priority + ")", x.held(8, 12, priority), NONE);
        }
    }

    /** Promise 11: "0 when v is a host", whatever it has received. */
    private static void heldAtAHost() {
        PausedFabric x = withPause();
        for (int t = 8; t <= 20; t++) {
            x.tick(1);
            due("held(8, 1, 0) at " + t, x.held(8, 1, 0), 0);
            due("held(8, 1, 1) at " + t, x.held(8, 1, 1), 0);
        }
        due("received", x.received(0) > 1, true);
        for (int host = 0; host < 8; host++) {
            due("held by host " + host, x.held(8 + host / 2, host, host % 2), 0);
        }
    }

    /** Promise 12: "false when there is no port from u to v". */
    private static void asksOfNoPort() {
        PausedFabric x = withPause();
        due("asks(0, 8)", x.asks(0, 8), true);
        for (int[] pair : NO_PORTS) {
            due("asks(" + pair[0] + ", " + pair[1] + ")", x.asks(pair[0], pair[1]), false);
        }
        due("asks(1, 8)", x.asks(1, 8), false);
        due("asks(12, 8)", x.asks(12, 8), false);
    }

    /** Promise 12: "false when .. v is a host". */
    private static void asksOfAHost() {
        PausedFabric x = withPause();
        for (int t = 8; t <= 25; t++) {
            x.tick(1);
            due("asks(8, 0) at " + t, x.asks(8, 0), false);
            due("asks(8, 1) at " + t, x.asks(8, 1), false);
        }
        due("received", x.received(0), 3);
    }

    /** Promise 13: "false when there is no such port". */
    private static void pausedOfNoPort() {
        PausedFabric x = withPause();
        due("paused(0, 8)", x.paused(0, 8), true);
        for (int[] pair : NO_PORTS) {
            due("paused(" + pair[0] + ", " + pair[1] + ")", x.paused(pair[0], pair[1]), false);
        }
        due("paused(8, 0)", x.paused(8, 0), false);
        due("paused(1, 8)", x.paused(1, 8), false);
    }

    /** Promise 13: "false when there is .. no tick yet". */
    private static void pausedBeforeATick() {
        PausedFabric x = withOneFlow(1, 4, 0, 1, 0);
        injectMany(x, 0, 4, 10);
        for (int u = 0; u < 14; u++) {
            for (int v = 0; v < 14; v++) {
                due("paused(" + u + ", " + v + ")", x.paused(u, v), false);
            }
        }
    }

    /** Promise 13: "was paused in the latest tick": not whether it will be in the next one. */
    private static void pausedInTheLatestTick() {
        PausedFabric x = withOneFlow(1, 4, 40, 40, 0);
        x.inject(0, 4);
        x.tick(6);
        due("asks at 6", x.asks(0, 8), true);
        due("paused at 6", x.paused(0, 8), false);
        x.tick(4);
        due("asks at 10", x.asks(0, 8), false);
        due("paused at 10", x.paused(0, 8), true);
        x.tick(21);
        due("paused after a refused tick", x.paused(0, 8), true);
        x.tick(1);
        due("paused at 11", x.paused(0, 8), false);
    }

    private static final int[] NO_FLOWS = {LEAST, -12, -1, 2, 3, 11, 12, 13, GREATEST};

    /** A fabric with two flows, of which the first had a frame received and a frame dropped. */
    private static PausedFabric withTwoFlows() {
        PausedFabric x = withOneFlow(1, 4, 0, 1, 1);
        x.flow(2, 3, 0);
        x.inject(0, 4);
        x.inject(0, 2);
        advance(x, 12);
        return x;
    }

    /** Promise 14: "0 when there is none". */
    private static void rateOfNoFlow() {
        PausedFabric x = withTwoFlows();
        for (int f : NO_FLOWS) {
            due("rate(" + f + ")", x.rate(f), 0);
        }
        due("rate(0)", x.rate(0), 32);
        due("rate(1)", x.rate(1), 64);
    }

    /** Promise 15: "0 when there is none". */
    private static void alphaOfNoFlow() {
        PausedFabric x = withTwoFlows();
        for (int f : NO_FLOWS) {
            due("alpha(" + f + ")", x.alpha(f), 0);
        }
        advance(x, 16);
        due("alpha(0)", x.alpha(0), 64);
        due("alpha(1)", x.alpha(1), 60);
    }

    /** Promise 16: "0 when there is no flow f". */
    private static void receivedOfNoFlow() {
        PausedFabric x = withTwoFlows();
        for (int f : NO_FLOWS) {
            due("received(" + f + ")", x.received(f), 0);
        }
        due("received(0)", x.received(0), 1);
        due("received(1)", x.received(1), 0);
    }

    /** Promise 17: "0 when there is no flow f". */
    private static void droppedOfNoFlow() {
        PausedFabric x = withTwoFlows();
        for (int f : NO_FLOWS) {
            due("dropped(" + f + ")", x.dropped(f), 0);
        }
        due("dropped(0)", x.dropped(0), 1);
        due("dropped(1)", x.dropped(1), 0);
    }

    /** Promise 18: "NONE when .. there is no flow f". */
    private static void lastOfNoFlow() {
        PausedFabric x = withTwoFlows();
        for (int f : NO_FLOWS) {
            due("last(" + f + ")", x.last(f), NONE);
        }
        due("last(0)", x.last(0), 0);
        due("last(1)", x.last(1), NONE);
    }

    /** Promise 18: "NONE when none was": without a frame, with one on its way, and with one that was dropped. */
    private static void lastWhenNoneWasReceived() {
        PausedFabric x = new PausedFabric(1, 4, 0, 40);
        int[] froms = {0, 5, 5, 1};
        for (int from : froms) {
            x.flow(from, 2, 1);
        }
        due("without a frame", x.last(3), NONE);
        x.inject(0, 4);
        advance(x, 4);
        x.inject(3, 1);
        due("with one in its queue", x.last(3), NONE);
        advance(x, 11);
        due("with one on its way", x.last(3), NONE);
        advance(x, 20);
        due("it was dropped", x.dropped(3), 1);
        due("with one that was dropped", x.last(3), NONE);
        due("received(3)", x.received(3), 0);
        x.inject(3, 1);
        advance(x, 40);
        due("with one that was received", x.last(3), 2);
        due("received(3) then", x.received(3), 1);
        due("dropped(3) then", x.dropped(3), 1);
    }

    /** Promises 16 to 18: frames of two flows, received in turn. */
    private static void countsAreByFlow() {
        PausedFabric x = withOneFlow(1, 40, 40, 40, 0);
        x.flow(0, 1, 0);
        int[] order = {1, 0, 0, 1, 1};
        for (int f : order) {
            x.inject(f, 1);
        }
        int[] received = {0, 0};
        int[] last = {NONE, NONE};
        for (int k = 0; k < order.length; k++) {
            advance(x, 4 + k);
            due("last(0) before " + k, x.last(0), last[0]);
            due("last(1) before " + k, x.last(1), last[1]);
            due("received(0) before " + k, x.received(0), received[0]);
            due("received(1) before " + k, x.received(1), received[1]);
            received[order[k]]++;
            last[order[k]] = k;
        }
        advance(x, 9);
        due("last(0)", x.last(0), 2);
        due("last(1)", x.last(1), 4);
        due("received(0)", x.received(0), 2);
        due("received(1)", x.received(1), 3);
        due("dropped(0)", x.dropped(0), 0);
    }

    private static final int REFUSALS = 22;

    private static void makeRefused(PausedFabric x, int which) {
        switch (which) {
            case 0: due("refused flow", x.flow(-1, 0, 0), NONE); break;
            case 1: due("refused flow", x.flow(0, -1, 0), NONE); break;
            case 2: due("refused flow", x.flow(8, 0, 0), NONE); break;
            case 3: due("refused flow", x.flow(0, 8, 0), NONE); break;
            case 4: due("refused flow", x.flow(5, 5, 1), NONE); break;
            case 5: due("refused flow", x.flow(0, 1, -1), NONE); break;
            case 6: due("refused flow", x.flow(0, 1, 2), NONE); break;
            case 7: due("refused share", x.share(-1, 8), false); break;
            case 8: due("refused share", x.share(2, 8), false); break;
            case 9: due("refused share", x.share(0, 0), false); break;
            case 10: due("refused share", x.share(0, 9), false); break;
            case 11: due("refused share", x.share(1, 0), false); break;
            case 12: due("refused share", x.share(1, 9), false); break;
            case 13: due("refused inject", x.inject(-1, 1), NONE); break;
            case 14: due("refused inject", x.inject(6, 1), NONE); break;
            case 15: due("refused inject", x.inject(12, 1), NONE); break;
            case 16: due("refused inject", x.inject(0, 0), NONE); break;
            case 17: due("refused inject", x.inject(0, 5), NONE); break;
            case 18: due("refused inject", x.inject(0, -1), NONE); break;
            case 19: due("refused tick", x.tick(0), NONE); break;
            case 20: due("refused tick", x.tick(21), NONE); break;
            default: due("refused tick", x.tick(-1), NONE); break;
        }
    }

    /** A fabric in the midst of things: pauses, marks and drops of six flows for host 6. */
    private static PausedFabric busyFabric() {
        PausedFabric x = new PausedFabric(2, 6, 4, 3);
        x.share(0, 2);
        for (int host = 0; host < 6; host++) {
            x.flow(host, 6, host % 3 == 0 ? 1 : 0);
            injectMany(x, host, 1 + host % 4, 6);
        }
        x.tick(18);
        return x;
    }

    /** "A call that is refused changes nothing": neither what is answered now nor what comes of it. */
    private static void refusedChangesNothing(int which) {
        PausedFabric plain = busyFabric();
        PausedFabric vexed = busyFabric();
        makeRefused(vexed, which);
        compare("refusal " + which, vexed, plain);
        makeRefused(vexed, which);
        due("refusal " + which + ", tick", vexed.tick(20), plain.tick(20));
        due("refusal " + which + ", next flow", vexed.flow(1, 6, 0), 6);
        due("refusal " + which + ", next flow", plain.flow(1, 6, 0), 6);
        due("refusal " + which + ", next frame", vexed.inject(6, 3), 36);
        due("refusal " + which + ", next frame", plain.inject(6, 3), 36);
        due("refusal " + which + ", tick", vexed.tick(19), plain.tick(19));
        compare("refusal " + which + " later", vexed, plain);
    }

    private static void compare(String what, PausedFabric x, PausedFabric y) {
        due(what + ", clock", x.clock(), y.clock());
        for (int k = 0; k <= 37; k++) {
            due(what + ", state " + k, x.state(k), y.state(k));
            due(what + ", node " + k, x.node(k), y.node(k));
        }
        for (int f = 0; f <= 7; f++) {
            due(what + ", rate " + f, x.rate(f), y.rate(f));
            due(what + ", alpha " + f, x.alpha(f), y.alpha(f));
            due(what + ", received " + f, x.received(f), y.received(f));
            due(what + ", dropped " + f, x.dropped(f), y.dropped(f));
            due(what + ", last " + f, x.last(f), y.last(f));
        }
        for (int host = 0; host < 8; host++) {
            int leaf = 8 + host / 2;
            due(what + ", queued by " + host, x.queued(host, leaf, 0), y.queued(host, leaf, 0));
            due(what + ", queued for " + host, x.queued(leaf, host, 1), y.queued(leaf, host, 1));
            due(what + ", held from " + host, x.held(host, leaf, 0), y.held(host, leaf, 0));
            due(what + ", asks " + host, x.asks(host, leaf), y.asks(host, leaf));
            due(what + ", paused " + host, x.paused(host, leaf), y.paused(host, leaf));
        }
    }

    /** The 13th flow and the 101st frame are refused, and the 12 and the 100 before them go on as without that. */
    private static void refusedAtTheLimitsChangesNothing() {
        PausedFabric plain = new PausedFabric(1, 6, 4, 3);
        PausedFabric vexed = new PausedFabric(1, 6, 4, 3);
        for (int f = 0; f < 12; f++) {
            plain.flow(f % 8, (f + 1) % 8, f % 2);
            vexed.flow(f % 8, (f + 1) % 8, f % 2);
        }
        for (int k = 0; k < 100; k++) {
            plain.inject(k % 12, 1 + k % 4);
            vexed.inject(k % 12, 1 + k % 4);
        }
        for (int i = 0; i < 12; i++) {
            due("flow 12", vexed.flow(0, 2, 0), NONE);
            due("frame 100", vexed.inject(i, 2), NONE);
            due("tick", vexed.tick(7), plain.tick(7));
            due("clock", vexed.clock(), plain.clock());
        }
        for (int k = 0; k <= 100; k++) {
            due("state " + k, vexed.state(k), plain.state(k));
            due("node " + k, vexed.node(k), plain.node(k));
        }
        for (int f = 0; f <= 12; f++) {
            due("rate " + f, vexed.rate(f), plain.rate(f));
            due("received " + f, vexed.received(f), plain.received(f));
            due("dropped " + f, vexed.dropped(f), plain.dropped(f));
        }
    }

    /** The calls that only answer, with arguments of every kind, leave all as it is. */
    private static void askingForAnswersChangesNothing() {
        PausedFabric plain = busyFabric();
        PausedFabric asked = busyFabric();
        int[] arguments = {LEAST, -1, 0, 8, 13, 100, GREATEST};
        for (int a : arguments) {
            asked.state(a);
            asked.node(a);
            asked.marked(a);
            asked.rate(a);
            asked.alpha(a);
            asked.received(a);
            asked.dropped(a);
            asked.last(a);
            asked.clock();
            asked.queued(0, 8, a);
            asked.queued(a, 8, 0);
            asked.held(8, a, 0);
            asked.asks(0, a);
            asked.paused(a, 8);
        }
        due("tick", asked.tick(20), plain.tick(20));
        compare("after many answers", asked, plain);
    }
}
