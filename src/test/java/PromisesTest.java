/** For each promise of the document: ordinary inputs, the edges it names, and wrong inputs. */
public final class PromisesTest {
    private static int wrong = 0;

    public static void main(String[] args) {
        promise1Ranges();
        promise1Empty();
        promise2Flow();
        promise2Routes();
        promise3Share();
        promise3CreditsStay();
        promise3CreditIsLost();
        promise4Inject();
        promise5Tick();
        promise5OrderOfArrival();
        promise6Clock();
        promise7And8StateAndNode();
        promise8Dropped();
        promise9Marked();
        promise10Queued();
        promise11Held();
        promise12Asks();
        promise13Paused();
        promise13PriorityOneGoesOn();
        promise14And15RateAndAlpha();
        promise14Waiting();
        promise16To18Counts();
        promise17Limits();
        refusedChangesNothing();
        if (wrong != 0) {
            System.out.println(wrong + " answers are not as due");
            System.exit(1);
        }
    }

    private static void due(String what, long got, long want) {
        if (got != want) {
            wrong++;
            System.out.println(what + " answered " + got + ", due is " + want);
        }
    }

    private static void due(String what, boolean got, boolean want) {
        due(what, got ? 1 : 0, want ? 1 : 0);
    }

    private static void injectMany(PausedFabric x, int f, int length, int count) {
        for (int i = 0; i < count; i++) {
            x.inject(f, length);
        }
    }

    /** The time at which a single frame of length 1 from host 0 to host 1 is received: 1 + 2 * (1 + delay). */
    private static int timeOfReceipt(int delay) {
        PausedFabric x = new PausedFabric(delay, 10, 10, 10);
        x.flow(0, 1, 0);
        x.inject(0, 1);
        for (int i = 0; i < 40; i++) {
            if (x.tick(1) == 1) {
                return x.clock();
            }
        }
        return -1;
    }

    private static int droppedOfTwenty(int xoff, int room, int priority) {
        PausedFabric x = new PausedFabric(8, xoff, room, 40);
        x.flow(0, 2, priority);
        x.flow(1, 2, priority);
        x.flow(3, 2, priority);
        for (int f = 0; f < 3; f++) {
            injectMany(x, f, 4, 20);
        }
        for (int i = 0; i < 30; i++) {
            x.tick(20);
        }
        return x.dropped(0) + x.dropped(1) + x.dropped(2);
    }

    private static void promise1Ranges() {
        due("delay 1", timeOfReceipt(1), 5);
        due("delay 3", timeOfReceipt(3), 9);
        due("delay 8", timeOfReceipt(8), 19);
        due("delay 0", timeOfReceipt(0), 5);
        due("delay 9", timeOfReceipt(9), 19);
        due("least delay", timeOfReceipt(Integer.MIN_VALUE), 5);
        due("greatest delay", timeOfReceipt(Integer.MAX_VALUE), 19);
        due("xoff 3 is 4", droppedOfTwenty(3, 0, 1), droppedOfTwenty(4, 0, 1));
        due("xoff 41 is 40", droppedOfTwenty(41, 0, 1), droppedOfTwenty(40, 0, 1));
        due("xoff 41 asks as 40", firstAsked(41), firstAsked(40));
        due("xoff 36 asks before", firstAsked(36) > 0 && firstAsked(36) < firstAsked(40), true);
        due("room -1 is 0", droppedOfTwenty(4, -1, 0), droppedOfTwenty(4, 0, 0));
        due("room 41 is 40", droppedOfTwenty(4, 41, 0), droppedOfTwenty(4, 40, 0));
        due("xoff matters", droppedOfTwenty(4, 0, 1) > droppedOfTwenty(12, 0, 1), true);
        due("room matters", droppedOfTwenty(4, 0, 0) > droppedOfTwenty(4, 40, 0), true);
        due("enough room", droppedOfTwenty(4, 40, 0), 0);
        due("mark 0 is 1, length 1", markedAt(0, 1), false);
        due("mark 0 is 1, length 2", markedAt(0, 2), true);
        due("mark -9 is 1, length 1", markedAt(-9, 1), false);
        due("mark 3, length 3", markedAt(3, 3), false);
        due("mark 3, length 4", markedAt(3, 4), true);
        due("mark 41 is 40", firstMarked(41), firstMarked(40));
        due("mark 40 is not 39", firstMarked(40) == firstMarked(39), false);
    }

    /** The time at which leaf 11, with frames of length 4 from both spines for host 6, first asks spine 12. */
    private static int firstAsked(int xoff) {
        PausedFabric x = new PausedFabric(1, xoff, 40, 40);
        x.flow(0, 6, 0);
        x.flow(2, 6, 0);
        injectMany(x, 0, 4, 50);
        injectMany(x, 1, 4, 50);
        for (int i = 0; i < 400; i++) {
            x.tick(1);
            if (x.asks(12, 11)) {
                return x.clock();
            }
        }
        return -1;
    }

    private static boolean markedAt(int mark, int length) {
        PausedFabric x = new PausedFabric(1, 40, 40, mark);
        x.flow(0, 1, 0);
        x.inject(0, length);
        x.tick(length + 2);
        return x.marked(0);
    }

    /** Hosts 0 and 2 send frames of length 1 to host 6; the queue of leaf 11 grows by 1 with each tick. */
    private static int firstMarked(int mark) {
        PausedFabric x = new PausedFabric(1, 40, 40, mark);
        x.flow(0, 6, 0);
        x.flow(2, 6, 0);
        injectMany(x, 0, 1, 50);
        injectMany(x, 1, 1, 50);
        for (int i = 0; i < 4; i++) {
            x.tick(20);
        }
        for (int k = 0; k < 100; k++) {
            if (x.marked(k)) {
                return k;
            }
        }
        return -1;
    }

    private static void promise1Empty() {
        PausedFabric x = new PausedFabric(2, 8, 8, 8);
        due("clock of a new one", x.clock(), 0);
        due("state of a new one", x.state(0), PausedFabric.NONE);
        due("rate of a new one", x.rate(0), 0);
        for (int u = -1; u < 16; u++) {
            x = new PausedFabric(2, 8, 8, 8);
            for (int v = -1; v < 16; v++) {
                int want = isLink(u, v) ? 0 : -1;
                due("queued(" + u + ", " + v + ", 0)", x.queued(u, v, 0), want);
                due("queued(" + u + ", " + v + ", 1)", x.queued(u, v, 1), want);
                due("held(" + u + ", " + v + ", 0)", x.held(u, v, 0), want);
                due("held(" + u + ", " + v + ", 1)", x.held(u, v, 1), want);
                due("asks(" + u + ", " + v + ")", x.asks(u, v), false);
                due("paused(" + u + ", " + v + ")", x.paused(u, v), false);
            }
        }
    }

    private static boolean isLink(int u, int v) {
        int a = Math.min(u, v);
        int b = Math.max(u, v);
        boolean hostAndLeaf = a >= 0 && a <= 7 && b == 8 + a / 2;
        boolean leafAndSpine = a >= 8 && a <= 11 && (b == 12 || b == 13);
        return hostAndLeaf || leafAndSpine;
    }

    private static void promise2Flow() {
        PausedFabric x = new PausedFabric(1, 8, 8, 8);
        due("flow(-1, 0, 0)", x.flow(-1, 0, 0), -1);
        due("flow(0, -1, 0)", x.flow(0, -1, 0), -1);
        due("flow(8, 0, 0)", x.flow(8, 0, 0), -1);
        due("flow(0, 8, 0)", x.flow(0, 8, 0), -1);
        due("flow(0, 13, 0)", x.flow(0, 13, 0), -1);
        due("flow(4, 4, 0)", x.flow(4, 4, 0), -1);
        due("flow(0, 1, -1)", x.flow(0, 1, -1), -1);
        due("flow(0, 1, 2)", x.flow(0, 1, 2), -1);
        for (int f = 0; f < 12; f++) {
            due("flow " + f, x.flow(0, 7, f % 2), f);
        }
        due("a 13th flow", x.flow(0, 7, 0), -1);
        due("rate of the last flow", x.rate(11), 64);
        due("rate of no flow", x.rate(12), 0);
    }

    /** Flow f from host 0 to host 7 goes by spine 13 when f has an odd number of bits. */
    private static void promise2Routes() {
        int[] spines = {12, 13, 13, 12, 13, 12, 12, 13, 13, 12, 12, 13};
        for (int f = 0; f < 12; f++) {
            PausedFabric x = new PausedFabric(1, 8, 8, 8);
            for (int i = 0; i <= f; i++) {
                x.flow(0, 7, 0);
            }
            x.inject(f, 1);
            int[] nodes = {0, 0, 8, 8, spines[f], spines[f], 11, 11, 7};
            for (int t = 1; t <= 9; t++) {
                x.tick(1);
                due("node of flow " + f + " at " + t, x.node(0), nodes[t - 1]);
            }
        }
        PausedFabric x = new PausedFabric(1, 8, 8, 8);
        x.flow(5, 4, 1);
        x.inject(0, 1);
        int[] nodes = {5, 5, 10, 10, 4};
        for (int t = 1; t <= 5; t++) {
            x.tick(1);
            due("node within a leaf at " + t, x.node(0), nodes[t - 1]);
        }
    }

    private static void promise3Share() {
        PausedFabric x = new PausedFabric(1, 8, 8, 8);
        due("share(0, 1)", x.share(0, 1), true);
        due("share(1, 8)", x.share(1, 8), true);
        due("share(-1, 1)", x.share(-1, 1), false);
        due("share(2, 1)", x.share(2, 1), false);
        due("share(0, 0)", x.share(0, 0), false);
        due("share(0, 9)", x.share(0, 9), false);
        due("share(0, -3)", x.share(0, -3), false);
        due("even shares", sentOfPriority1(1, 1, 24), 12);
        due("shares 3 to 1", sentOfPriority1(3, 1, 24), 6);
        due("shares 1 to 3", sentOfPriority1(1, 3, 24), 18);
        due("shares 8 to 4", sentOfPriority1(8, 4, 24), 8);
    }

    /** Host 0 has many frames of length 1 of both priorities; how many of priority 1 began by a time? */
    private static int sentOfPriority1(int quantum0, int quantum1, int time) {
        PausedFabric x = new PausedFabric(1, 40, 40, 40);
        x.flow(0, 1, 0);
        x.flow(0, 1, 1);
        x.share(0, quantum0);
        x.share(1, quantum1);
        injectMany(x, 0, 1, 50);
        injectMany(x, 1, 1, 50);
        for (int i = 0; i < time; i++) {
            x.tick(1);
        }
        return 50 - x.queued(0, 8, 1);
    }

    /**
     * With quantum 8, a frame of length 1 leaves credit 7 at host 0, which stays while nothing is
     * ready: frames of 4 and 3 then go without a new turn, before the frame of the other priority.
     */
    private static void promise3CreditsStay() {
        PausedFabric x = new PausedFabric(1, 40, 40, 40);
        x.flow(0, 1, 0);
        x.flow(0, 1, 1);
        x.share(1, 8);
        x.inject(1, 1);
        x.tick(5);
        x.share(1, 1);
        x.inject(1, 4);
        x.inject(1, 3);
        x.inject(1, 1);
        x.inject(0, 1);
        x.tick(1);
        due("first by credit", x.state(1), 2);
        x.tick(4);
        due("second by credit", x.state(2), 2);
        x.tick(3);
        due("credit is used up", x.state(3), 1);
        due("the other priority", x.state(4), 2);
    }

    /** The credit 7 of priority 1 is lost when it is not ready and priority 0 is. */
    private static void promise3CreditIsLost() {
        PausedFabric x = new PausedFabric(1, 40, 40, 40);
        x.flow(0, 1, 0);
        x.flow(0, 1, 1);
        x.share(1, 8);
        x.inject(1, 1);
        x.tick(2);
        x.share(1, 1);
        x.inject(0, 1);
        x.tick(2);
        x.inject(1, 4);
        x.inject(0, 1);
        x.tick(1);
        due("priority 1 has no credit", x.state(2), 1);
        due("priority 0 has some", x.state(3), 2);
        x.tick(1);
        due("priority 1 goes alone", x.state(2), 2);
    }

    private static void promise4Inject() {
        PausedFabric x = new PausedFabric(1, 8, 8, 8);
        due("inject without a flow", x.inject(0, 1), -1);
        x.flow(3, 0, 1);
        due("inject(-1, 1)", x.inject(-1, 1), -1);
        due("inject(1, 1)", x.inject(1, 1), -1);
        due("inject(0, 0)", x.inject(0, 0), -1);
        due("inject(0, -1)", x.inject(0, -1), -1);
        due("inject(0, 5)", x.inject(0, 5), -1);
        for (int k = 0; k < 100; k++) {
            due("inject " + k, x.inject(0, 1 + k % 4), k);
        }
        due("inject 100", x.inject(0, 1), -1);
        due("state of the last frame", x.state(99), 1);
        due("state of no frame", x.state(100), -1);
        due("queued with 100 frames", x.queued(3, 9, 1), 250);
        due("the other queue", x.queued(3, 9, 0), 0);
        x.tick(1);
        due("sent in the next tick", x.state(0), 2);
        due("only one is sent", x.state(1), 1);
        due("still 100 frames", x.inject(0, 1), -1);
    }

    private static void promise5Tick() {
        PausedFabric x = new PausedFabric(1, 40, 40, 40);
        x.flow(0, 1, 0);
        x.flow(2, 3, 0);
        injectMany(x, 0, 1, 4);
        injectMany(x, 1, 2, 2);
        due("tick(0)", x.tick(0), -1);
        due("tick(-1)", x.tick(-1), -1);
        due("tick(21)", x.tick(21), -1);
        due("tick(4)", x.tick(4), 0);
        due("tick(1)", x.tick(1), 1);
        due("tick(2)", x.tick(2), 3);
        due("tick(20)", x.tick(20), 2);
        due("tick(20) when all is done", x.tick(20), 0);
    }

    /** Frames that reach leaf 8 at one time by host 0, host 1 and the spines are queued in this order. */
    private static void promise5OrderOfArrival() {
        PausedFabric x = new PausedFabric(2, 40, 40, 40);
        x.flow(2, 1, 0);
        x.flow(2, 1, 0);
        x.flow(0, 1, 0);
        x.flow(4, 1, 0);
        int fromSpine13 = 1;
        x.inject(0, 1);
        x.inject(1, 1);
        x.tick(1);
        due("flow 0 goes first", x.state(0), 2);
        x.inject(3, 1);
        x.tick(6);
        x.inject(2, 1);
        x.tick(1);
        due("spine 12 has the frame of flow 3", x.node(2), 12);
        due("spine 13 has the frame of flow 1", x.node(fromSpine13), 13);
        x.tick(3);
        due("host 0 before spine 12", x.state(3), 2);
        due("spine 12 waits", x.state(2), 1);
        due("spine 13 waits", x.state(fromSpine13), 1);
        x.tick(1);
        due("spine 12 before spine 13", x.state(2), 2);
        due("spine 13 waits on", x.state(fromSpine13), 1);
        x.tick(1);
        due("spine 13 is last", x.state(fromSpine13), 2);
    }

    private static void promise6Clock() {
        PausedFabric x = new PausedFabric(1, 8, 8, 8);
        x.tick(20);
        due("clock after 20", x.clock(), 20);
        x.tick(1);
        due("clock after 21", x.clock(), 21);
        x.tick(21);
        x.tick(0);
        due("clock after refused ticks", x.clock(), 21);
    }

    /** With delay 3 a frame of length 2 begins at 1, ends at 3 and arrives at 6, then 8 and 11. */
    private static void promise7And8StateAndNode() {
        PausedFabric x = new PausedFabric(3, 8, 8, 8);
        x.flow(7, 6, 0);
        x.inject(0, 2);
        int[] states = {1, 2, 2, 3, 3, 3, 2, 2, 3, 3, 3, 4, 4};
        int[] nodes = {7, 7, 7, 7, 7, 7, 11, 11, 11, 11, 11, 6, 6};
        for (int t = 0; t < states.length; t++) {
            due("state at " + t, x.state(0), states[t]);
            due("node at " + t, x.node(0), nodes[t]);
            x.tick(1);
        }
        due("state(-1)", x.state(-1), -1);
        due("state(1)", x.state(1), -1);
        due("node(-1)", x.node(-1), -1);
        due("node(1)", x.node(1), -1);
        due("node(100)", x.node(100), -1);
    }

    /** Hosts 0 and 1 send to host 2 by spines 12 and 13; leaf 9 takes no more than 4 from each. */
    private static void promise8Dropped() {
        PausedFabric x = new PausedFabric(1, 4, 0, 40);
        x.flow(0, 2, 1);
        x.flow(1, 2, 1);
        injectMany(x, 0, 4, 2);
        injectMany(x, 1, 4, 2);
        x.tick(20);
        x.tick(4);
        due("first by spine 12", x.state(0), 4);
        due("second by spine 12", x.state(1), 2);
        due("first by spine 13", x.state(2), 3);
        due("second by spine 13", x.state(3), 5);
        due("where it was dropped", x.node(3), 9);
        due("dropped(0)", x.dropped(0), 0);
        due("dropped(1)", x.dropped(1), 1);
        x.tick(20);
        due("state stays", x.state(3), 5);
        due("received of flow 1", x.received(1), 1);
        due("last of flow 1", x.last(1), 2);
    }

    private static void promise9Marked() {
        PausedFabric x = new PausedFabric(1, 40, 40, 3);
        x.flow(0, 1, 0);
        injectMany(x, 0, 4, 2);
        x.inject(0, 3);
        due("marked at its host", x.marked(0), false);
        x.tick(5);
        due("not marked before it arrives", x.marked(0), false);
        x.tick(1);
        due("marked at the leaf", x.marked(0), true);
        x.tick(20);
        due("still marked when received", x.marked(0), true);
        due("a queue of 3 does not mark", x.marked(2), false);
        due("state of that frame", x.state(2), 4);
        due("marked(-1)", x.marked(-1), false);
        due("marked(3)", x.marked(3), false);
        due("marked(100)", x.marked(100), false);
    }

    private static void promise10Queued() {
        PausedFabric x = new PausedFabric(1, 40, 40, 40);
        x.flow(0, 2, 0);
        x.flow(1, 2, 0);
        x.flow(6, 2, 1);
        x.inject(0, 4);
        x.inject(0, 3);
        due("queued(0, 8, 0)", x.queued(0, 8, 0), 7);
        due("queued(0, 8, 1)", x.queued(0, 8, 1), 0);
        due("queued(8, 0, 0)", x.queued(8, 0, 0), 0);
        x.tick(1);
        due("what is being sent is not queued", x.queued(0, 8, 0), 3);
        due("queued(0, 8, -1)", x.queued(0, 8, -1), -1);
        due("queued(0, 8, 2)", x.queued(0, 8, 2), -1);
        due("queued(0, 1, 0)", x.queued(0, 1, 0), -1);
        due("queued(0, 9, 0)", x.queued(0, 9, 0), -1);
        due("queued(12, 13, 0)", x.queued(12, 13, 0), -1);
        due("queued(8, 9, 0)", x.queued(8, 9, 0), -1);
        due("queued(0, 12, 0)", x.queued(0, 12, 0), -1);
        due("queued(-1, 8, 0)", x.queued(-1, 8, 0), -1);
        due("queued(8, 14, 0)", x.queued(8, 14, 0), -1);
        due("queued(8, 8, 0)", x.queued(8, 8, 0), -1);
    }

    /** With delay 1 a frame of length 3 arrives at leaf 8 at 5, and its sending there ends at 8. */
    private static void promise11Held() {
        PausedFabric x = new PausedFabric(1, 40, 40, 40);
        x.flow(0, 1, 1);
        x.inject(0, 3);
        x.tick(4);
        due("held before it arrives", x.held(0, 8, 1), 0);
        x.tick(1);
        due("held while being sent", x.held(0, 8, 1), 3);
        due("held of the other priority", x.held(0, 8, 0), 0);
        due("held by the other port", x.held(1, 8, 1), 0);
        x.tick(2);
        due("held before its end", x.held(0, 8, 1), 3);
        x.tick(1);
        due("held after its end", x.held(0, 8, 1), 0);
        x.tick(1);
        due("received", x.received(0), 1);
        due("a host holds nothing", x.held(8, 1, 1), 0);
        due("held(8, 1, 2)", x.held(8, 1, 2), -1);
        due("held(0, 8, 2)", x.held(0, 8, 2), -1);
        due("held(0, 8, -1)", x.held(0, 8, -1), -1);
        due("held(0, 9, 0)", x.held(0, 9, 0), -1);
        due("held(13, 12, 0)", x.held(13, 12, 0), -1);
        due("held(14, 8, 0)", x.held(14, 8, 0), -1);
    }

    /** Xoff 5: leaf 8 asks host 0 with 4 + 1 held, and ceases at 2, which 1 is and 4 is not. */
    private static void promise12Asks() {
        PausedFabric x = new PausedFabric(1, 5, 40, 40);
        x.flow(0, 1, 0);
        x.inject(0, 4);
        x.inject(0, 1);
        x.tick(6);
        due("held 4", x.held(0, 8, 0), 4);
        due("asks with 4", x.asks(0, 8), false);
        x.tick(1);
        due("held 5", x.held(0, 8, 0), 5);
        due("asks with 5", x.asks(0, 8), true);
        due("only one is asked", x.asks(1, 8), false);
        due("asks the other way", x.asks(8, 0), false);
        x.tick(2);
        due("asks before the end", x.asks(0, 8), true);
        x.tick(1);
        due("held 1", x.held(0, 8, 0), 1);
        due("asks with 1", x.asks(0, 8), false);
        due("asks(0, 9)", x.asks(0, 9), false);
        due("asks(-1, 8)", x.asks(-1, 8), false);
        due("asks(8, 1)", x.asks(8, 1), false);
        due("asks(99, 99)", x.asks(99, 99), false);
        promise12CeasesAtHalf();
        promise12NeverForPriority1();
    }

    /** A frame of 4 arrives at 6 and ends at 10, when a shorter one behind it is all that is held. */
    private static void promise12CeasesAtHalf() {
        due("3 held of xoff 5", asksWithSecond(5, 3), true);
        due("3 held of xoff 6", asksWithSecond(6, 3), false);
        due("3 held of xoff 7", asksWithSecond(7, 3), false);
        due("2 held of xoff 5", asksWithSecond(5, 2), false);
        due("2 held of xoff 4", asksWithSecond(4, 2), false);
    }

    private static boolean asksWithSecond(int xoff, int second) {
        PausedFabric x = new PausedFabric(1, xoff, 40, 40);
        x.flow(0, 1, 0);
        x.inject(0, 4);
        x.inject(0, second);
        x.tick(9);
        due("asks with xoff " + xoff + " and both held", x.asks(0, 8), true);
        x.tick(1);
        due("held when the first is gone", x.held(0, 8, 0), second);
        return x.asks(0, 8);
    }

    private static void promise12NeverForPriority1() {
        PausedFabric x = new PausedFabric(1, 4, 40, 40);
        x.flow(0, 1, 1);
        injectMany(x, 0, 4, 5);
        for (int t = 0; t < 40; t++) {
            x.tick(1);
            due("asks for priority 1", x.asks(0, 8), false);
            due("pauses for priority 1", x.paused(0, 8), false);
        }
    }

    /** Delay 3, xoff 4: the frame arrives at 8 and its sending ends at 12, so 11 to 14 are paused. */
    private static void promise13Paused() {
        PausedFabric x = new PausedFabric(3, 4, 40, 40);
        x.flow(0, 1, 0);
        injectMany(x, 0, 4, 1);
        due("paused without a tick", x.paused(0, 8), false);
        for (int t = 1; t <= 20; t++) {
            x.tick(1);
            due("asks at " + t, x.asks(0, 8), t >= 8 && t <= 11);
            due("paused at " + t, x.paused(0, 8), t >= 11 && t <= 14);
            due("paused back at " + t, x.paused(8, 0), false);
        }
        due("paused(0, 9)", x.paused(0, 9), false);
        due("paused(-1, 8)", x.paused(-1, 8), false);
        due("paused(8, 8)", x.paused(8, 8), false);
    }

    /** While host 0 is paused its frames of priority 1 are sent and those of priority 0 are not. */
    private static void promise13PriorityOneGoesOn() {
        PausedFabric x = new PausedFabric(1, 4, 40, 40);
        x.flow(0, 1, 0);
        x.flow(0, 1, 1);
        x.inject(0, 4);
        x.tick(6);
        due("asks", x.asks(0, 8), true);
        x.inject(0, 1);
        x.inject(1, 1);
        x.tick(1);
        due("paused", x.paused(0, 8), true);
        due("priority 0 is not sent", x.state(1), 1);
        due("priority 1 is sent", x.state(2), 2);
        x.tick(3);
        due("paused to the end", x.paused(0, 8), true);
        due("priority 0 is not sent yet", x.state(1), 1);
        x.tick(1);
        due("paused no more", x.paused(0, 8), false);
        due("priority 0 is sent", x.state(1), 2);
    }

    /** Mark 1, delay 2: the frame of length 2 begins at 1, is received at 9, and its flow is told at 11. */
    private static void promise14And15RateAndAlpha() {
        PausedFabric x = new PausedFabric(2, 40, 40, 1);
        x.flow(0, 1, 0);
        x.flow(2, 3, 0);
        x.inject(0, 2);
        x.tick(9);
        due("received at 9", x.received(0), 1);
        x.tick(1);
        due("rate at 10", x.rate(0), 64);
        x.tick(1);
        due("rate at 11", x.rate(0), 32);
        due("alpha at 11", x.alpha(0), 64);
        due("alpha of the other at 11", x.alpha(1), 64);
        x.tick(5);
        due("alpha of the other at 16", x.alpha(1), 60);
        due("rate of the other at 16", x.rate(1), 64);
        due("rate at 16, as calm began anew", x.rate(0), 32);
        x.tick(10);
        due("rate at 26", x.rate(0), 32);
        x.tick(1);
        due("rate at 27", x.rate(0), 48);
        due("alpha at 27", x.alpha(0), 60);
        x.tick(16);
        due("rate at 43", x.rate(0), 56);
        due("alpha at 43", x.alpha(0), 56);
        due("alpha of the other at 43", x.alpha(1), 56);
        x.tick(16);
        due("rate at 59", x.rate(0), 60);
        due("alpha at 59", x.alpha(0), 52);
        x.tick(16);
        due("rate at 75", x.rate(0), 62);
        x.tick(16);
        due("rate at 91", x.rate(0), 63);
        x.tick(16);
        due("rate at 107", x.rate(0), 64);
        due("rate(-1)", x.rate(-1), 0);
        due("rate(2)", x.rate(2), 0);
        due("rate(12)", x.rate(12), 0);
        due("alpha(-1)", x.alpha(-1), 0);
        due("alpha(2)", x.alpha(2), 0);
        due("alpha(12)", x.alpha(12), 0);
        promise15ToldAgain();
        promise15Late();
    }

    /** Two marked frames are received at 9 and 11 and told at 11 and 13; one more is told at 40. */
    private static void promise15ToldAgain() {
        PausedFabric x = new PausedFabric(2, 40, 40, 1);
        x.flow(0, 1, 0);
        injectMany(x, 0, 2, 2);
        x.tick(12);
        due("rate at 12", x.rate(0), 32);
        x.tick(1);
        due("rate at 13", x.rate(0), 16);
        due("alpha at 13", x.alpha(0), 64);
        x.tick(15);
        due("rate at 28", x.rate(0), 16);
        x.tick(1);
        due("rate at 29", x.rate(0), 24);
        due("alpha at 29", x.alpha(0), 60);
        x.inject(0, 2);
        x.tick(10);
        due("rate at 39", x.rate(0), 24);
        x.tick(1);
        due("rate at 40", x.rate(0), 13);
        due("alpha at 40", x.alpha(0), 60);
    }

    /** A flow that is added at the time 10 has its 16 calm ticks at 26. */
    private static void promise15Late() {
        PausedFabric x = new PausedFabric(2, 40, 40, 1);
        x.tick(10);
        x.flow(0, 1, 0);
        due("alpha of a new flow", x.alpha(0), 64);
        x.tick(15);
        due("alpha at 25", x.alpha(0), 64);
        x.tick(1);
        due("alpha at 26", x.alpha(0), 60);
    }

    /** At rate 48 a frame of length 2 is followed by the next after 128 / 48, rounded up: 3. */
    private static void promise14Waiting() {
        PausedFabric x = new PausedFabric(2, 40, 40, 1);
        x.flow(0, 1, 0);
        x.flow(0, 1, 1);
        x.inject(0, 2);
        x.tick(20);
        x.tick(7);
        due("rate at 27", x.rate(0), 48);
        x.inject(0, 2);
        x.inject(0, 1);
        x.inject(1, 1);
        x.inject(1, 1);
        x.tick(1);
        due("state at 28", x.state(1), 1);
        due("the other priority at 28", x.state(3), 2);
        x.tick(1);
        due("the other priority at 29", x.state(4), 2);
        x.tick(1);
        due("state at 30", x.state(1), 2);
        x.tick(2);
        due("sent at 32", x.state(1), 3);
        due("its flow waits at 32", x.state(2), 1);
        x.tick(1);
        due("and waits no more at 33", x.state(2), 2);
    }

    private static void promise16To18Counts() {
        PausedFabric x = new PausedFabric(1, 40, 40, 40);
        due("last without a flow", x.last(0), -1);
        x.flow(0, 1, 0);
        x.flow(0, 1, 1);
        x.inject(1, 2);
        x.inject(0, 2);
        x.inject(0, 2);
        due("received at first", x.received(0), 0);
        due("dropped at first", x.dropped(0), 0);
        due("last at first", x.last(0), -1);
        x.tick(6);
        due("last before it is received", x.last(1), -1);
        x.tick(20);
        due("received(0)", x.received(0), 2);
        due("received(1)", x.received(1), 1);
        due("last(0)", x.last(0), 2);
        due("last(1)", x.last(1), 0);
        int[] none = {-1, 2, 12, 100, Integer.MIN_VALUE, Integer.MAX_VALUE};
        for (int f : none) {
            due("received(" + f + ")", x.received(f), 0);
            due("dropped(" + f + ")", x.dropped(f), 0);
            due("last(" + f + ")", x.last(f), -1);
        }
    }

    /** Priority 1 is dropped beyond xoff, priority 0 only beyond xoff + room. */
    private static void promise17Limits() {
        due("priority 1 without room", droppedAtLeaf(1, 8, 0) > 0, true);
        due("room is not for priority 1", droppedAtLeaf(1, 8, 40), droppedAtLeaf(1, 8, 0));
        due("priority 0 with room", droppedAtLeaf(0, 8, 40), 0);
        due("priority 0 without room", droppedAtLeaf(0, 8, 0) > 0, true);
    }

    private static int droppedAtLeaf(int priority, int xoff, int room) {
        PausedFabric x = new PausedFabric(8, xoff, room, 40);
        for (int host = 0; host < 6; host++) {
            x.flow(host, 6, priority);
            injectMany(x, host, 3, 12);
        }
        for (int i = 0; i < 40; i++) {
            x.tick(20);
        }
        int sum = 0;
        int all = 0;
        for (int f = 0; f < 6; f++) {
            sum += x.dropped(f);
            all += x.dropped(f) + x.received(f);
        }
        due("every frame is received or dropped", all, 72);
        return sum;
    }

    /** Two objects get the same calls, one of them refused calls between them too. */
    private static void refusedChangesNothing() {
        PausedFabric plain = new PausedFabric(2, 6, 4, 3);
        PausedFabric vexed = new PausedFabric(2, 6, 4, 3);
        PausedFabric[] both = {plain, vexed};
        for (PausedFabric x : both) {
            for (int host = 0; host < 6; host++) {
                x.flow(host, 6, host % 3 == 0 ? 1 : 0);
                injectMany(x, host, 1 + host % 4, 10);
            }
        }
        for (int i = 0; i < 12; i++) {
            vex(vexed);
            due("tick " + i, vexed.tick(7), plain.tick(7));
        }
        compare(vexed, plain);
    }

    private static void vex(PausedFabric x) {
        x.flow(0, 0, 0);
        x.flow(0, 8, 0);
        x.flow(1, 2, 3);
        x.share(0, 9);
        x.share(1, 0);
        x.share(2, 5);
        x.inject(6, 1);
        x.inject(0, 5);
        x.inject(0, 0);
        x.tick(0);
        x.tick(21);
    }

    private static void compare(PausedFabric x, PausedFabric y) {
        for (int k = 0; k < 61; k++) {
            due("state " + k, x.state(k), y.state(k));
            due("node " + k, x.node(k), y.node(k));
            due("marked " + k, x.marked(k), y.marked(k));
        }
        for (int f = 0; f < 7; f++) {
            due("rate " + f, x.rate(f), y.rate(f));
            due("dropped " + f, x.dropped(f), y.dropped(f));
        }
        due("clock", x.clock(), y.clock());
    }
}
