/**
 * The boundary cases that the document's 'Terms' name, a function for each sentence, in their order.
 * The numbers that are due are reckoned by hand from the sentence that stands above the function:
 * with the delay d, a lone frame of length s that is injected at the time t is sent by its host from
 * t + 1 to t + 1 + s, and arrives at its leaf, where it is sent on at once, at t + 1 + s + d.
 */
public final class TermsBoundaryTest {
    private static int wrong = 0;

    public static void main(String[] args) {
        objectServes512Calls();
        nodes();
        flows();
        frames();
        dropping();
        marking();
        asking();
        pausing();
        shares();
        waiting();
        rates();
        ticks();
        if (wrong != 0) {
            System.out.println(wrong + " answers are not as due");
            System.exit(1);
        }
    }

    private static void nodes() {
        nodesAreZeroTo13();
        portsOfALinkWorkApart();
    }

    private static void flows() {
        spineByNumberOfBits();
        sameLeafNeedsNoSpine();
    }

    private static void frames() {
        lengthsOneToFour();
        queueKeepsOrder();
        oneFrameAtATime();
        lengthOfQueueIsASum();
        heldFromArrivalToEnd();
        heldInSumByPortAndPriority();
    }

    private static void dropping() {
        priority1DroppedBeyondXoff();
        priority0DroppedBeyondXoffAndRoom();
        exactlyFullIsHeld();
        heldOfOthersDoesNotCount();
        droppedAtASpine();
        droppedIsGone();
    }

    private static void marking() {
        markedWhenMoreThanMark();
        markCountsTheQueueAlone();
        markCountsItsPriorityAlone();
        notMarkedAtItsHost();
        markedOnceAndForAll();
    }

    private static void asking() {
        asksAtXoffAndNotBelow();
        asksAtXoff40();
        droppedFrameDoesNotAsk();
        ceasesAtHalfRoundedDown();
        betweenTheLimitsItStays();
        priority1NeverAsks();
        priority1DoesNotCount();
        eachSenderIsAskedApart();
    }

    private static void pausing() {
        pausedDelayTicksAfter();
        notPausedInTheFirstTicks();
        pauseLetsASendingEnd();
        pauseHoldsASwitchToo();
        pauseTakesTheCredit();
        creditStaysWhenNoneIsReady();
    }

    private static void shares() {
        turnAndCreditsAtFirst();
        lengthEqualToCredit();
        quantumAtItsLimits();
        turnPassesAnEmptyQueue();
        creditBecomesZero();
        sharesAtASwitch();
    }

    private static void waiting() {
        waitIsRoundedUp();
        waitAtRate1();
        firstFrameOfTheQueueWaits();
        anotherFlowInFrontGoesOn();
        noWaitAtASwitch();
        waitKeepsTheRateItBeganWith();
        waitTakesTheCredit();
    }

    private static void rates() {
        flowAtFirst();
        toldDelayTicksAfter();
        toldInsteadOfCalm16();
        unmarkedIsNotTold();
        droppedIsNotTold();
        rateIsRoundedDown();
        rateStays1();
        rateStays2();
        rateRisesAgain();
        alphaFallsToZero();
        alphaIsRoundedDown();
        alphaOfZeroKeepsTheRate();
    }

    private static void ticks() {
        endsBeforeArrivals();
        ceasesAndBeginsInOneTick();
        tellsBeforeChoosing();
        arrivesBeforeChoosing();
        hostsArriveInOrder();
        leavesArriveInOrder();
        spinesArriveInOrder();
        timeIsZeroAtFirst();
    }

    private static void due(String what, long got, long want) {
        if (got != want) {
            wrong++;
            System.out.println(what + " answered " + got + ", due is " + want);
        }
    }

    private static void due(String what, boolean got, boolean want) {
        due(what, got ? 1 : 0, want ? 1 : 0);
    }

    private static void injectMany(PausedFabric x, int f, int length, int count) {
        for (int i = 0; i < count; i++) {
            x.inject(f, length);
        }
    }

    /** Makes ticks up to a time that is not yet past, and answers how many frames were received. */
    private static int advance(PausedFabric x, int time) {
        int received = 0;
        int left = time - x.clock();
        while (left > 0) {
            int n = Math.min(20, left);
            received += x.tick(n);
            left -= n;
        }
        return received;
    }

    /** A fabric with one flow, from host 0 to host 1. */
    private static PausedFabric withOneFlow(int delay, int xoff, int room, int mark, int priority) {
        PausedFabric x = new PausedFabric(delay, xoff, room, mark);
        due("the first flow", x.flow(0, 1, priority), 0);
        return x;
    }

    /** "An object is used for at most 512 calls after it has been made". */
    private static void objectServes512Calls() {
        PausedFabric x = new PausedFabric(1, 40, 40, 40);
        x.flow(0, 7, 0);
        int received = 0;
        for (int i = 0; i < 100; i++) {
            due("inject " + i, x.inject(0, 4), i);
        }
        for (int i = 0; i < 408; i++) {
            received += x.tick(20);
        }
        due("received in all", received, 100);
        due("call 510", x.last(0), 99);
        due("call 511", x.state(99), 4);
        due("call 512", x.clock(), 8160);
    }

    private static final int[] NO_NODES = {Integer.MIN_VALUE, -2, -1, 14, 15, 32, 100, Integer.MAX_VALUE};

    /**
     * "HOSTS 0 .. 7, LEAVES 8 .. 11, SPINES 12 and 13 .. Leaf 8 + j has a link with the hosts 2 * j
     * and 2 * j + 1, and every leaf has one with each spine."
     */
    private static void nodesAreZeroTo13() {
        int links = 0;
        for (int u = 0; u < 14; u++) {
            PausedFabric x = new PausedFabric(1, 8, 8, 8);
            for (int v = 0; v < 14; v++) {
                int want = linked(u, v) || linked(v, u) ? 0 : -1;
                links += 1 + want;
                due("queued(" + u + ", " + v + ", 0)", x.queued(u, v, 0), want);
                due("held(" + u + ", " + v + ", 1)", x.held(u, v, 1), want);
            }
            for (int v : NO_NODES) {
                due("queued(" + u + ", " + v + ", 0)", x.queued(u, v, 0), -1);
                due("queued(" + v + ", " + u + ", 0)", x.queued(v, u, 0), -1);
                due("held(" + u + ", " + v + ", 0)", x.held(u, v, 0), -1);
                due("held(" + v + ", " + u + ", 0)", x.held(v, u, 0), -1);
            }
        }
        due("ports in all", links, 32);
    }

    private static boolean linked(int low, int high) {
        int[] leaves = {8, 8, 9, 9, 10, 10, 11, 11};
        return low < 8 ? high == leaves[low] : low < 12 && high > 11;
    }

    /** "Each link is two PORTS, u to v and v to u, which work apart from each other." */
    private static void portsOfALinkWorkApart() {
        PausedFabric x = withOneFlow(1, 4, 40, 40, 0);
        x.flow(1, 0, 0);
        x.inject(0, 4);
        advance(x, 4);
        x.inject(1, 1);
        advance(x, 7);
        due("host 0 is paused", x.paused(0, 8), true);
        due("leaf 8 is not", x.paused(8, 0), false);
        due("leaf 8 sends to host 0", x.state(1), 2);
        due("at the leaf", x.node(1), 8);
        due("while it sends to host 1", x.state(0), 2);
        due("only host 0 is asked", x.asks(8, 0), false);
    }

    /** "the spine 12 (13, when the number of the flow has an odd number of bits that are 1)". */
    private static void spineByNumberOfBits() {
        int[] spines = {12, 13, 13, 12, 13, 12, 12, 13, 13, 12, 12, 13};
        for (int f = 0; f < 12; f++) {
            PausedFabric x = new PausedFabric(1, 8, 8, 8);
            for (int i = 0; i <= f; i++) {
                x.flow(6, 1, 1);
            }
            x.inject(f, 1);
            int[] nodes = {6, 6, 6, 11, 11, spines[f], spines[f], 8, 8, 1, 1};
            for (int t = 0; t < nodes.length; t++) {
                advance(x, t);
                due("node of flow " + f + " at " + t, x.node(0), nodes[t]);
            }
        }
    }

    /** "then, if the other host has another leaf, the spine .. and the other leaf, then the other host." */
    private static void sameLeafNeedsNoSpine() {
        for (int host = 0; host < 8; host++) {
            int twin = host % 2 == 0 ? host + 1 : host - 1;
            int other = (host + 2) % 8;
            PausedFabric x = new PausedFabric(1, 8, 8, 8);
            x.flow(host, twin, 0);
            x.flow(host, other, 1);
            x.inject(0, 1);
            due("received at 5", advance(x, 5), 1);
            due("by the twin", x.node(0), twin);
            x.inject(1, 1);
            due("received at 13", advance(x, 13), 0);
            due("received at 14", advance(x, 14), 1);
            due("by the other", x.node(1), other);
        }
    }

    /**
     * "a LENGTH 1 .. 4 .. begins at time t with length s leaves its queue then, its sending ends at t
     * + s, and it ARRIVES at the other node at t + s + DELAY."
     */
    private static void lengthsOneToFour() {
        for (int delay = 1; delay <= 8; delay++) {
            for (int s = 1; s <= 4; s++) {
                PausedFabric x = withOneFlow(delay, 40, 40, 40, 0);
                x.inject(0, s);
                due("queued at 0", x.state(0), 1);
                advance(x, 1);
                due("sending begins at 1", x.state(0), 2);
                due("it left its queue", x.queued(0, 8, 0), 0);
                advance(x, s);
                due("sending of " + s + " at " + s, x.state(0), 2);
                advance(x, 1 + s);
                due("its end", x.state(0), 3);
                due("node at its end", x.node(0), 0);
                advance(x, s + delay);
                due("before it arrives", x.state(0), 3);
                due("node before it arrives", x.node(0), 0);
                advance(x, 1 + s + delay);
                due("arrived", x.node(0), 8);
                due("and sent on", x.state(0), 2);
                due("before the last arrival", advance(x, 2 * s + 2 * delay), 0);
                due("the last arrival", advance(x, 1 + 2 * s + 2 * delay), 1);
                due("received", x.state(0), 4);
            }
        }
    }

    /** "at each node but the last it is put at the end of the QUEUE for its priority". */
    private static void queueKeepsOrder() {
        PausedFabric x = withOneFlow(1, 40, 40, 40, 0);
        x.flow(0, 1, 0);
        x.inject(0, 3);
        x.inject(1, 1);
        x.inject(0, 2);
        int[] begins = {1, 4, 5};
        for (int k = 0; k < 3; k++) {
            advance(x, begins[k]);
            due("frame " + k + " is sent", x.state(k), 2);
            due("the next is not", x.state(k + 1), k < 2 ? 1 : -1);
        }
        int[] receipts = {9, 10, 12};
        for (int k = 0; k < 3; k++) {
            due("received before " + receipts[k], advance(x, receipts[k] - 1), 0);
            due("received at " + receipts[k], advance(x, receipts[k]), 1);
            due("frame " + k, x.state(k), 4);
        }
    }

    /** "A port SENDS one frame at a time". */
    private static void oneFrameAtATime() {
        PausedFabric x = withOneFlow(1, 40, 40, 40, 0);
        x.flow(0, 1, 1);
        x.inject(0, 4);
        advance(x, 1);
        x.inject(1, 1);
        advance(x, 4);
        due("the first is sent", x.state(0), 2);
        due("the other priority is not", x.state(1), 1);
        advance(x, 5);
        due("the first has ended", x.state(0), 3);
        due("the other priority is sent", x.state(1), 2);
    }

    /** "The length of a queue is the sum of the lengths of its frames." */
    private static void lengthOfQueueIsASum() {
        PausedFabric x = withOneFlow(1, 40, 40, 40, 1);
        due("an empty queue", x.queued(0, 8, 1), 0);
        int sum = 0;
        for (int s = 1; s <= 4; s++) {
            x.inject(0, s);
            sum += s;
            due("queue up to " + s, x.queued(0, 8, 1), sum);
        }
        int[] begins = {1, 2, 4, 7};
        for (int i = 0; i < 4; i++) {
            advance(x, begins[i]);
            sum -= i + 1;
            due("queue at " + begins[i], x.queued(0, 8, 1), sum);
        }
    }

    /** "A switch HOLDS a frame from the time it arrives to the time its sending ends there." */
    private static void heldFromArrivalToEnd() {
        for (int s = 1; s <= 4; s++) {
            PausedFabric x = withOneFlow(2, 40, 40, 40, 0);
            x.inject(0, s);
            advance(x, s + 2);
            due("held before " + s + " arrives", x.held(0, 8, 0), 0);
            advance(x, s + 3);
            due("held when " + s + " arrives", x.held(0, 8, 0), s);
            advance(x, 2 * s + 2);
            due("held before its sending ends", x.held(0, 8, 0), s);
            advance(x, 2 * s + 3);
            due("held when its sending ends", x.held(0, 8, 0), 0);
            due("which is before it is received", x.received(0), 0);
            due("the way to a host holds nothing", x.held(8, 1, 0), 0);
        }
    }

    /**
     * "HELD (u, v, p) .. the sum of the lengths of the frames of priority p that v holds and that
     * came by the port from u."
     */
    private static void heldInSumByPortAndPriority() {
        PausedFabric x = withOneFlow(1, 40, 40, 40, 0);
        x.flow(0, 1, 1);
        x.flow(2, 1, 0);
        x.inject(0, 4);
        advance(x, 1);
        x.inject(1, 2);
        x.inject(0, 1);
        advance(x, 9);
        due("held of priority 0", x.held(0, 8, 0), 5);
        due("held of priority 1", x.held(0, 8, 1), 2);
        due("held from host 1", x.held(1, 8, 0), 0);
        due("held from spine 13", x.held(13, 8, 0), 0);
    }

    /**
     * Frames of length 4 and s follow each other; is the second dropped at the leaf, where the first
     * is still held?
     */
    private static int secondDropped(int xoff, int room, int priority, int s) {
        PausedFabric x = withOneFlow(1, xoff, room, 40, priority);
        x.inject(0, 4);
        x.inject(0, s);
        advance(x, 6);
        due("the first is held", x.held(0, 8, priority), 4);
        advance(x, 6 + s);
        due("the first is not dropped", x.state(0), 2);
        due("dropped as its state says", x.dropped(0), x.state(1) == 5 ? 1 : 0);
        return x.dropped(0);
    }

    /** "DROPPED .. when HELD for that port and its priority and s are together more than XOFF, for priority 1". */
    private static void priority1DroppedBeyondXoff() {
        for (int s = 1; s <= 3; s++) {
            due("4 and " + s + " for one less", secondDropped(3 + s, 0, 1, s), 1);
            due("4 and " + s + " exactly", secondDropped(4 + s, 0, 1, s), 0);
            due("4 and " + s + ", room is not for it", secondDropped(3 + s, 40, 1, s), 1);
        }
    }

    /** "or more than XOFF + ROOM, for priority 0". */
    private static void priority0DroppedBeyondXoffAndRoom() {
        for (int s = 1; s <= 3; s++) {
            for (int room = 0; room < s; room++) {
                due("4 and " + s + " for one less", secondDropped(3 + s - room, room, 0, s), 1);
                due("4 and " + s + " exactly", secondDropped(4 + s - room, room, 0, s), 0);
            }
            due("4 and " + s + " exactly, xoff alone is full with 4", secondDropped(4, s, 0, s), 0);
        }
    }

    /** A lone frame of length 4 fits exactly into the least xoff and no room. */
    private static void exactlyFullIsHeld() {
        for (int priority = 0; priority < 2; priority++) {
            PausedFabric x = withOneFlow(1, 4, 0, 40, priority);
            x.inject(0, 4);
            advance(x, 6);
            due("state", x.state(0), 2);
            due("held", x.held(0, 8, priority), 4);
            due("held of the other priority", x.held(0, 8, 1 - priority), 0);
            due("received at last", advance(x, 11), 1);
        }
    }

    /** "HELD for that port and its priority": neither the other priority nor the other port counts. */
    private static void heldOfOthersDoesNotCount() {
        for (int priority = 0; priority < 2; priority++) {
            PausedFabric x = withOneFlow(1, 4, 0, 40, priority);
            x.flow(0, 1, 1 - priority);
            x.flow(1, 0, 1 - priority);
            x.inject(0, 4);
            advance(x, 1);
            x.inject(1, 3);
            x.inject(2, 4);
            advance(x, 9);
            due("the first is sent on", x.state(0), 2);
            due("the other priority is held", x.state(1), 1);
            due("the other port is held", x.state(2), 2);
            due("held(0, 8, 0)", x.held(0, 8, priority), 4);
            due("held(0, 8, 1)", x.held(0, 8, 1 - priority), 3);
            due("held(1, 8, 1)", x.held(1, 8, 1 - priority), 4);
        }
    }

    /** A frame of host 0 and one of host 1 are held apart at leaf 8, and together at spine 12. */
    private static void droppedAtASpine() {
        PausedFabric x = new PausedFabric(1, 4, 0, 40);
        int[] froms = {0, 5, 5, 1};
        for (int from : froms) {
            x.flow(from, 2, 1);
        }
        x.inject(0, 4);
        advance(x, 4);
        x.inject(3, 1);
        advance(x, 9);
        due("the short one waits behind the long one", x.state(1), 1);
        due("held from host 0", x.held(0, 8, 1), 4);
        due("held from host 1", x.held(1, 8, 1), 1);
        advance(x, 11);
        due("the long one is held by the spine", x.held(8, 12, 1), 4);
        due("nothing is dropped yet", x.dropped(3), 0);
        advance(x, 12);
        due("the short one is dropped", x.state(1), 5);
        due("at the spine", x.node(1), 12);
        due("dropped(3)", x.dropped(3), 1);
        due("dropped(0)", x.dropped(0), 0);
    }

    /** "is DROPPED (it is gone then)". */
    private static void droppedIsGone() {
        PausedFabric x = withOneFlow(1, 4, 0, 1, 1);
        x.inject(0, 4);
        x.inject(0, 2);
        advance(x, 8);
        due("state", x.state(1), 5);
        due("node", x.node(1), 8);
        due("not held", x.held(0, 8, 1), 4);
        due("not queued", x.queued(8, 1, 1), 0);
        due("not marked", x.marked(1), false);
        due("received later", advance(x, 48), 1);
        due("state later", x.state(1), 5);
        due("node later", x.node(1), 8);
        due("received(0)", x.received(0), 1);
        due("dropped(0)", x.dropped(0), 1);
        due("last(0)", x.last(0), 0);
        due("nothing is held", x.held(0, 8, 1), 0);
    }

    /** "if the length of that queue is now more than MARK, it is MARKED". */
    private static void markedWhenMoreThanMark() {
        for (int mark = 1; mark <= 4; mark++) {
            for (int s = 1; s <= 4; s++) {
                PausedFabric x = withOneFlow(1, 40, 40, mark, s % 2);
                x.inject(0, s);
                advance(x, s + 1);
                due("marked before it arrives", x.marked(0), false);
                advance(x, s + 2);
                due("marked, mark " + mark + ", length " + s, x.marked(0), s > mark);
                advance(x, 2 * s + 3);
                due("received, mark " + mark + ", length " + s, x.marked(0), s > mark);
            }
        }
    }

    /** The frame that is being sent is held, but is not in the queue. */
    private static void markCountsTheQueueAlone() {
        PausedFabric x = withOneFlow(1, 40, 40, 3, 0);
        x.inject(0, 4);
        x.inject(0, 2);
        x.inject(0, 1);
        x.inject(0, 1);
        advance(x, 8);
        due("held with the second", x.held(0, 8, 0), 6);
        due("queue with the second", x.queued(8, 1, 0), 2);
        due("second", x.marked(1), false);
        advance(x, 9);
        due("queue with the third", x.queued(8, 1, 0), 3);
        due("third", x.marked(2), false);
        advance(x, 10);
        due("fourth, as the queue was 4 before the second began", x.marked(3), true);
        due("queue when the second is sent", x.queued(8, 1, 0), 2);
        due("the third is not marked later", x.marked(2), false);
    }

    /** "the length of that queue": the queue of its own priority. */
    private static void markCountsItsPriorityAlone() {
        PausedFabric x = new PausedFabric(1, 40, 40, 3);
        x.flow(0, 2, 0);
        x.flow(3, 2, 0);
        x.flow(3, 2, 0);
        x.flow(1, 2, 1);
        x.inject(0, 3);
        x.inject(3, 3);
        advance(x, 5);
        due("both are held", x.held(0, 8, 0) + x.held(1, 8, 1), 6);
        due("one waits", x.queued(8, 12, 0) + x.queued(8, 12, 1), 3);
        due("priority 0", x.marked(0), false);
        due("priority 1", x.marked(1), false);
    }

    /** Only what arrives at a switch is marked. */
    private static void notMarkedAtItsHost() {
        PausedFabric x = withOneFlow(1, 40, 40, 1, 0);
        injectMany(x, 0, 1, 10);
        due("the queue of the host", x.queued(0, 8, 0), 10);
        due("all are received", advance(x, 14), 10);
        for (int k = 0; k < 10; k++) {
            due("marked(" + k + ")", x.marked(k), false);
        }
    }

    /**
     * A frame that was marked at a leaf stays so at the spine and the leaf whose queues are short,
     * and is told.
     */
    private static void markedOnceAndForAll() {
        PausedFabric x = new PausedFabric(1, 40, 40, 1);
        int[] froms = {0, 4, 4, 1};
        for (int from : froms) {
            x.flow(from, 2, 0);
        }
        x.inject(0, 1);
        x.inject(3, 1);
        int[] nodes = {8, 8, 8, 12, 12, 9, 9, 2};
        for (int t = 3; t <= 10; t++) {
            advance(x, t);
            due("node at " + t, x.node(1), nodes[t - 3]);
            due("marked at " + t, x.marked(1), true);
            due("the other at " + t, x.marked(0), false);
        }
        advance(x, 11);
        due("its flow is told", x.rate(3), 32);
        due("the other is not", x.rate(0), 64);
    }

    /** "It begins to ask when .. HELD (u, v, 0) is XOFF or more .. (At first it does not ask.)" */
    private static void asksAtXoffAndNotBelow() {
        for (int xoff = 4; xoff <= 8; xoff++) {
            for (int s = 1; s <= 3; s++) {
                PausedFabric x = withOneFlow(1, xoff, 40, 40, 0);
                x.inject(0, 4);
                x.inject(0, s);
                due("at first", x.asks(0, 8), false);
                advance(x, 5);
                due("before the first arrives", x.asks(0, 8), false);
                advance(x, 6);
                due("xoff " + xoff + ", held 4", x.asks(0, 8), xoff == 4);
                advance(x, 6 + s);
                due("held", x.held(0, 8, 0), 4 + s);
                due("xoff " + xoff + ", held " + (4 + s), x.asks(0, 8), 4 + s >= xoff);
            }
        }
    }

    /** Three senders fill the queue of leaf 11 for host 6, until the greatest xoff is reached by one of them. */
    private static void asksAtXoff40() {
        int[] xoffs = {40, 41, 44, Integer.MAX_VALUE};
        for (int xoff : xoffs) {
            PausedFabric x = new PausedFabric(1, xoff, 40, 40);
            x.flow(0, 6, 0);
            x.flow(2, 6, 0);
            x.flow(7, 6, 0);
            for (int f = 0; f < 3; f++) {
                injectMany(x, f, 4, 24);
            }
            int most = 0;
            for (int t = 1; t <= 120 && most < 40; t++) {
                due("asks with " + most + " held", x.asks(12, 11), false);
                x.tick(1);
                most = Math.max(most, x.held(12, 11, 0));
            }
            due("held", most, 40);
            due("asks with 40 held", x.asks(12, 11), true);
        }
    }

    /**
     * "with a frame of priority 0 that has just arrived from u and is held": with one that is dropped
     * it does not.
     */
    private static void droppedFrameDoesNotAsk() {
        PausedFabric x = withOneFlow(1, 5, 0, 40, 0);
        x.inject(0, 4);
        x.inject(0, 2);
        advance(x, 8);
        due("dropped", x.state(1), 5);
        due("held", x.held(0, 8, 0), 4);
        due("asks", x.asks(0, 8), false);
        advance(x, 9);
        due("paused", x.paused(0, 8), false);
    }

    /** "it ceases to ask when .. HELD (u, v, 0) is at most XOFF / 2, rounded down". */
    private static void ceasesAtHalfRoundedDown() {
        int[] halves = {0, 0, 0, 0, 2, 2, 3, 3};
        for (int xoff = 4; xoff <= 7; xoff++) {
            for (int s = Math.max(1, xoff - 4); s <= 3; s++) {
                PausedFabric x = withOneFlow(1, xoff, 40, 40, 0);
                x.inject(0, 4);
                x.inject(0, s);
                advance(x, 9);
                due("xoff " + xoff + " asks with " + (4 + s), x.asks(0, 8), true);
                advance(x, 10);
                due("held", x.held(0, 8, 0), s);
                due("xoff " + xoff + " asks with " + s, x.asks(0, 8), s > halves[xoff]);
                advance(x, 10 + s);
                due("xoff " + xoff + " asks with nothing", x.asks(0, 8), false);
            }
        }
    }

    /**
     * Below xoff and above its half, it asks if it did before: 3 of 5 are held on the way up and on
     * the way down.
     */
    private static void betweenTheLimitsItStays() {
        PausedFabric x = withOneFlow(1, 5, 40, 40, 0);
        x.inject(0, 3);
        x.inject(0, 2);
        x.inject(0, 3);
        advance(x, 5);
        due("held on the way up", x.held(0, 8, 0), 3);
        due("asks on the way up", x.asks(0, 8), false);
        advance(x, 7);
        due("held 5", x.held(0, 8, 0), 5);
        due("asks with 5", x.asks(0, 8), true);
        advance(x, 8);
        due("held 2", x.held(0, 8, 0), 2);
        due("asks with 2", x.asks(0, 8), false);
        PausedFabric y = withOneFlow(1, 5, 40, 40, 0);
        y.inject(0, 4);
        y.inject(0, 3);
        advance(y, 10);
        due("held on the way down", y.held(0, 8, 0), 3);
        due("asks on the way down", y.asks(0, 8), true);
    }

    /** "with a frame of priority 0". */
    private static void priority1NeverAsks() {
        PausedFabric x = withOneFlow(1, 4, 40, 40, 1);
        x.inject(0, 4);
        advance(x, 6);
        due("held", x.held(0, 8, 1), 4);
        due("asks", x.asks(0, 8), false);
        advance(x, 7);
        due("paused", x.paused(0, 8), false);
    }

    /** "HELD (u, v, 0)": what is held of priority 1 neither makes it ask nor keeps it from ceasing. */
    private static void priority1DoesNotCount() {
        PausedFabric x = withOneFlow(1, 4, 40, 40, 0);
        x.flow(0, 1, 1);
        x.inject(1, 4);
        advance(x, 1);
        x.inject(0, 3);
        advance(x, 9);
        due("held of priority 1", x.held(0, 8, 1), 4);
        due("held of priority 0", x.held(0, 8, 0), 3);
        due("asks with 3 and 4", x.asks(0, 8), false);
        PausedFabric y = withOneFlow(1, 4, 40, 40, 0);
        y.flow(0, 1, 1);
        y.inject(0, 4);
        advance(y, 1);
        y.inject(1, 3);
        advance(y, 9);
        due("asks with 4", y.asks(0, 8), true);
        advance(y, 10);
        due("held of priority 0 at 10", y.held(0, 8, 0), 0);
        due("held of priority 1 at 10", y.held(0, 8, 1), 3);
        due("asks with 0 and 3", y.asks(0, 8), false);
    }

    /**
     * "with the end of the sending of a frame of priority 0 that came from u": that of host 0 ends at
     * 10, that of host 1 at 14.
     */
    private static void eachSenderIsAskedApart() {
        PausedFabric x = new PausedFabric(1, 4, 40, 40);
        int[] froms = {0, 4, 4, 1};
        for (int from : froms) {
            x.flow(from, 2, 0);
        }
        x.inject(0, 4);
        x.inject(3, 4);
        for (int t = 1; t <= 20; t++) {
            x.tick(1);
            due("asks host 0 at " + t, x.asks(0, 8), t >= 6 && t <= 9);
            due("asks host 1 at " + t, x.asks(1, 8), t >= 6 && t <= 13);
            due("paused host 0 at " + t, x.paused(0, 8), t >= 7 && t <= 10);
            due("paused host 1 at " + t, x.paused(1, 8), t >= 7 && t <= 14);
        }
    }

    /** "PAUSED in a tick when v asked u to pause at the end of the tick DELAY ticks before it". */
    private static void pausedDelayTicksAfter() {
        for (int delay = 1; delay <= 8; delay++) {
            PausedFabric x = withOneFlow(delay, 4, 40, 40, 0);
            x.inject(0, 4);
            for (int t = 1; t <= 30; t++) {
                x.tick(1);
                boolean asked = t >= 5 + delay && t < 9 + delay;
                boolean paused = t >= 5 + 2 * delay && t < 9 + 2 * delay;
                due("delay " + delay + ", asks at " + t, x.asks(0, 8), asked);
                due("delay " + delay + ", paused at " + t, x.paused(0, 8), paused);
            }
        }
    }

    /** "(in the first DELAY ticks no port is paused)". */
    private static void notPausedInTheFirstTicks() {
        for (int delay = 1; delay <= 8; delay++) {
            PausedFabric x = new PausedFabric(delay, 4, 0, 1);
            due("paused before a tick", x.paused(0, 8), false);
            for (int t = 1; t <= delay; t++) {
                x.tick(1);
                for (int host = 0; host < 8; host++) {
                    due("paused at " + t, x.paused(host, 8 + host / 2), false);
                    due("paused at " + t, x.paused(8 + host / 2, host), false);
                    due("paused at " + t, x.paused(8 + host / 2, 12 + host % 2), false);
                    due("paused at " + t, x.paused(12 + host % 2, 8 + host / 2), false);
                }
            }
        }
    }

    /** "priority 0 is not ready while the port is paused": what is being sent goes on. */
    private static void pauseLetsASendingEnd() {
        PausedFabric x = withOneFlow(1, 4, 40, 40, 0);
        x.inject(0, 4);
        x.inject(0, 4);
        x.inject(0, 1);
        advance(x, 7);
        due("paused at 7", x.paused(0, 8), true);
        due("the second is being sent", x.state(1), 2);
        advance(x, 9);
        due("and has ended", x.state(1), 3);
        due("the third is not ready", x.state(2), 1);
        advance(x, 14);
        due("paused on, as the second was held from 10", x.paused(0, 8), true);
        due("the third is not ready yet", x.state(2), 1);
        advance(x, 15);
        due("paused no more", x.paused(0, 8), false);
        due("the third is sent", x.state(2), 2);
    }

    /** Spine 12 asks leaf 8 from 11 to 14, which is paused from 12 to 15. */
    private static void pauseHoldsASwitchToo() {
        PausedFabric x = new PausedFabric(1, 4, 40, 40);
        x.flow(0, 2, 0);
        x.flow(4, 2, 0);
        x.flow(4, 2, 0);
        x.flow(1, 2, 0);
        x.inject(0, 4);
        advance(x, 9);
        x.inject(3, 1);
        advance(x, 11);
        due("spine 12 asks", x.asks(8, 12), true);
        due("not paused yet", x.paused(8, 12), false);
        advance(x, 12);
        due("paused", x.paused(8, 12), true);
        due("the port to spine 13 is not", x.paused(8, 13), false);
        due("not sent at 12", x.state(1), 1);
        due("at the leaf", x.node(1), 8);
        advance(x, 15);
        due("not sent at 15", x.state(1), 1);
        due("spine 12 asks no more", x.asks(8, 12), false);
        advance(x, 16);
        due("paused no more", x.paused(8, 12), false);
        due("sent at 16", x.state(1), 2);
    }

    /** "if p is not ready, the credit of p becomes 0", also when it is a pause that keeps it from being ready. */
    private static void pauseTakesTheCredit() {
        PausedFabric x = withOneFlow(1, 4, 40, 40, 0);
        x.flow(0, 1, 1);
        x.share(0, 8);
        x.inject(0, 4);
        advance(x, 6);
        x.share(0, 1);
        x.inject(1, 1);
        x.inject(0, 4);
        advance(x, 7);
        due("paused", x.paused(0, 8), true);
        due("priority 1 is sent", x.state(1), 2);
        due("priority 0 is not", x.state(2), 1);
        advance(x, 10);
        x.inject(1, 3);
        advance(x, 11);
        due("paused no more", x.paused(0, 8), false);
        due("the 3 of priority 1 has its credit first", x.state(3), 2);
        due("the 4 of priority 0 has lost its credit", x.state(2), 1);
    }

    /** "as long as some priority is ready": while the one is paused and the other is empty, nothing changes. */
    private static void creditStaysWhenNoneIsReady() {
        PausedFabric x = withOneFlow(1, 4, 40, 40, 0);
        x.flow(0, 1, 1);
        x.share(0, 8);
        x.inject(0, 4);
        advance(x, 6);
        x.share(0, 1);
        x.inject(0, 4);
        advance(x, 10);
        due("paused", x.paused(0, 8), true);
        due("priority 0 is not sent", x.state(1), 1);
        x.inject(1, 1);
        advance(x, 11);
        due("paused no more", x.paused(0, 8), false);
        due("the 4 of priority 0 has its credit and its turn", x.state(1), 2);
        due("the 1 of priority 1 has not", x.state(2), 1);
    }

    /** Which priority does a new host send first, with a frame of this length in each queue? */
    private static int firstPriority(int length0, int length1) {
        PausedFabric x = withOneFlow(1, 40, 40, 40, 0);
        x.flow(0, 1, 1);
        x.inject(0, length0);
        x.inject(1, length1);
        x.tick(1);
        due("one of them is sent", x.state(0) + x.state(1), 3);
        return x.state(0) == 2 ? 0 : 1;
    }

    /**
     * "Each port has a TURN, a priority, 0 at first, and a CREDIT for each priority, 0 at first; .. a
     * QUANTUM from 1 to 8, 1 at first".
     */
    private static void turnAndCreditsAtFirst() {
        for (int length0 = 1; length0 <= 4; length0++) {
            for (int length1 = 1; length1 <= 4; length1++) {
                int want = length1 <= length0 ? 1 : 0;
                due("first of " + length0 + " and " + length1, firstPriority(length0, length1), want);
            }
        }
    }

    /**
     * "If p is ready and the first frame of its queue is not longer than the credit of p": 4 is not
     * longer than 4.
     */
    private static void lengthEqualToCredit() {
        for (int quantum = 3; quantum <= 4; quantum++) {
            PausedFabric x = withOneFlow(1, 40, 40, 40, 0);
            x.flow(0, 1, 1);
            x.share(1, quantum);
            x.inject(0, 1);
            x.inject(1, 4);
            x.tick(1);
            due("4 of a credit of " + quantum, x.state(1), quantum == 4 ? 2 : 1);
            due("1 of the other", x.state(0), quantum == 4 ? 1 : 2);
        }
    }

    /** "a QUANTUM from 1 to 8": with 8 two frames of length 4 go in one turn, and with 7 only one. */
    private static void quantumAtItsLimits() {
        for (int quantum = 7; quantum <= 8; quantum++) {
            PausedFabric x = withOneFlow(1, 40, 40, 40, 0);
            x.flow(0, 1, 1);
            x.share(1, quantum);
            injectMany(x, 1, 4, 3);
            injectMany(x, 0, 1, 2);
            advance(x, 1);
            due("the first of priority 1", x.state(0), 2);
            advance(x, 5);
            due("the second of priority 1", x.state(1), quantum == 8 ? 2 : 1);
            due("priority 0 by then", x.state(3), quantum == 8 ? 1 : 2);
            advance(x, quantum == 8 ? 9 : 6);
            due("the first of priority 0 has its turn", x.state(3), quantum == 8 ? 2 : 3);
            due("the second of priority 1 has it after that", x.state(1), quantum == 8 ? 3 : 2);
            due("the third of priority 1 has not", x.state(2), 1);
        }
    }

    /** "as long as some priority is ready": one that is alone gets turn after turn until it has its credit. */
    private static void turnPassesAnEmptyQueue() {
        for (int priority = 0; priority < 2; priority++) {
            PausedFabric x = withOneFlow(1, 40, 40, 40, priority);
            injectMany(x, 0, 4, 3);
            for (int k = 0; k < 3; k++) {
                advance(x, 1 + 4 * k);
                due("frame " + k + " of priority " + priority, x.state(k), 2);
            }
        }
    }

    /**
     * "if p is not ready, the credit of p becomes 0": it has then no more than its quantum when the
     * turn comes to it, which is not enough for 2, and the other one has its own before that.
     */
    private static void creditBecomesZero() {
        for (int priority = 0; priority < 2; priority++) {
            PausedFabric x = withOneFlow(1, 40, 40, 40, priority);
            x.flow(0, 1, 1 - priority);
            x.inject(0, 1);
            advance(x, 1);
            x.inject(0, 1);
            x.inject(1, 2);
            advance(x, 2);
            due("1 of the one that was ready", x.state(1), 2);
            due("2 of the other", x.state(2), 1);
            advance(x, 3);
            due("2 of the other in the next tick", x.state(2), 2);
        }
    }

    /**
     * "the same at all ports": leaf 8 gets a frame of each priority in each tick from 3 on, and sends
     * three of four of priority 1.
     */
    private static void sharesAtASwitch() {
        PausedFabric x = new PausedFabric(1, 40, 40, 40);
        int[] froms = {0, 4, 4, 1};
        for (int i = 0; i < 4; i++) {
            x.flow(froms[i], 2, i == 3 ? 1 : 0);
        }
        x.share(1, 3);
        injectMany(x, 0, 1, 20);
        injectMany(x, 3, 1, 20);
        for (int t = 3; t <= 20; t++) {
            advance(x, t);
            int sent0 = (t - 2) / 4;
            due("priority 0 at " + t, x.queued(8, 12, 0), t - 2 - sent0);
            due("priority 1 at " + t, x.queued(8, 12, 1), sent0);
        }
    }

    /**
     * A flow of the rate 48 at the time 27: told at 11, as a frame of length 2 was marked and
     * received at 9, its rate fell to 32, and after 16 calm ticks it rose half way to 64.
     */
    private static PausedFabric withRate48() {
        PausedFabric x = withOneFlow(2, 40, 40, 1, 0);
        x.inject(0, 2);
        advance(x, 27);
        due("rate at 27", x.rate(0), 48);
        return x;
    }

    /** "it must wait until the time t + (64 * s) / r, rounded up". */
    private static void waitIsRoundedUp() {
        int[] waits = {0, 2, 3, 4, 6};
        for (int s = 1; s <= 4; s++) {
            PausedFabric x = withRate48();
            x.inject(0, s);
            x.inject(0, 1);
            advance(x, 28);
            due("begins at once", x.state(1), 2);
            advance(x, 27 + waits[s]);
            due("length " + s + ", the next must wait", x.state(2), 1);
            advance(x, 28 + waits[s]);
            due("length " + s + ", the next is sent", x.state(2), 2);
        }
    }

    /** The least rate: seven marked frames are told at 14, 16 .. 26, each halving the rate as far as it goes. */
    private static PausedFabric withRate1() {
        PausedFabric x = withOneFlow(3, 40, 40, 1, 0);
        injectMany(x, 0, 2, 7);
        advance(x, 26);
        due("received", x.received(0), 7);
        due("rate at 26", x.rate(0), 1);
        return x;
    }

    private static void waitAtRate1() {
        for (int s = 1; s <= 4; s += 3) {
            PausedFabric x = withRate1();
            x.inject(0, s);
            x.inject(0, 1);
            advance(x, 27);
            due("begins at once", x.state(7), 2);
            advance(x, 26 + 64 * s);
            due("length " + s + ", the next must wait", x.state(8), 1);
            advance(x, 27 + 64 * s);
            due("length " + s + ", the next is sent", x.state(8), 2);
        }
    }

    /** "while the flow of the first frame of its queue must WAIT": those behind it are not sent before it. */
    private static void firstFrameOfTheQueueWaits() {
        PausedFabric x = withRate48();
        x.flow(0, 1, 0);
        x.flow(0, 1, 1);
        x.inject(0, 1);
        x.inject(0, 1);
        x.inject(1, 1);
        advance(x, 28);
        x.inject(2, 1);
        due("the first", x.state(1), 2);
        advance(x, 29);
        due("the second waits", x.state(2), 1);
        due("the one of a new flow behind it too", x.state(3), 1);
        due("the other priority is sent", x.state(4), 2);
        advance(x, 30);
        due("the second waits no more", x.state(2), 2);
        advance(x, 31);
        due("the one behind it", x.state(3), 2);
    }

    /** "the flow of the first frame of its queue": that the flow of the second must wait does not matter. */
    private static void anotherFlowInFrontGoesOn() {
        PausedFabric x = withRate48();
        x.flow(0, 1, 0);
        x.inject(0, 1);
        x.inject(1, 1);
        x.inject(0, 1);
        for (int k = 1; k <= 3; k++) {
            advance(x, 27 + k);
            due("frame " + k + " is sent", x.state(k), 2);
        }
    }

    /** "at a host a priority is not ready": at a switch a flow never waits, and it begins no wait there. */
    private static void noWaitAtASwitch() {
        PausedFabric x = withRate1();
        x.inject(0, 1);
        advance(x, 31);
        due("at the leaf", x.node(7), 8);
        due("sent on at once", x.state(7), 2);
        PausedFabric y = withRate48();
        y.inject(0, 1);
        advance(y, 31);
        due("sent by the leaf", y.node(1), 8);
        y.inject(0, 1);
        advance(y, 32);
        due("sent by the host in the next tick", y.state(2), 2);
    }

    /**
     * "Having begun to send .. at time t, with the rate r": when the rate falls to 32 at 8, the wait
     * from 7 to 8 stays.
     */
    private static void waitKeepsTheRateItBeganWith() {
        PausedFabric x = withOneFlow(1, 40, 40, 1, 0);
        x.inject(0, 2);
        advance(x, 6);
        x.inject(0, 1);
        x.inject(0, 1);
        advance(x, 7);
        due("rate at 7", x.rate(0), 64);
        due("begins at 7", x.state(1), 2);
        advance(x, 8);
        due("rate at 8", x.rate(0), 32);
        due("the next begins at 8", x.state(2), 2);
    }

    /** "if p is not ready, the credit of p becomes 0", also when it is a wait that keeps it from being ready. */
    private static void waitTakesTheCredit() {
        PausedFabric x = withRate48();
        x.flow(0, 1, 1);
        x.share(0, 8);
        x.inject(0, 1);
        advance(x, 28);
        x.share(0, 1);
        x.inject(0, 4);
        x.inject(1, 1);
        advance(x, 29);
        due("priority 1 is sent while the other must wait", x.state(3), 2);
        x.inject(1, 3);
        advance(x, 30);
        due("the 3 of priority 1 has its credit first", x.state(4), 2);
        due("the 4 of priority 0 has lost its credit", x.state(2), 1);
    }

    /** "A flow has a RATE (64 at first), a TARGET (64), an ALPHA (64) and a CALM (0)." */
    private static void flowAtFirst() {
        PausedFabric x = new PausedFabric(1, 8, 8, 8);
        advance(x, 5);
        x.flow(0, 1, 0);
        due("rate", x.rate(0), 64);
        due("alpha", x.alpha(0), 64);
        advance(x, 20);
        due("alpha after 15 ticks", x.alpha(0), 64);
        advance(x, 21);
        due("alpha after 16 ticks", x.alpha(0), 60);
        due("rate after 16 ticks, half way to its target", x.rate(0), 64);
        advance(x, 36);
        due("alpha after 31 ticks", x.alpha(0), 60);
        advance(x, 37);
        due("alpha after 32 ticks", x.alpha(0), 56);
    }

    /** "A flow is TOLD in a tick when a marked frame of it was received in the tick DELAY ticks before." */
    private static void toldDelayTicksAfter() {
        for (int delay = 1; delay <= 8; delay++) {
            PausedFabric x = withOneFlow(delay, 40, 40, 1, 0);
            x.flow(2, 3, 0);
            x.inject(0, 2);
            due("received before", advance(x, 4 + 2 * delay), 0);
            due("received", advance(x, 5 + 2 * delay), 1);
            advance(x, 4 + 3 * delay);
            due("delay " + delay + ", rate before it is told", x.rate(0), 64);
            advance(x, 5 + 3 * delay);
            due("delay " + delay + ", rate when it is told", x.rate(0), delay <= 3 ? 32 : 34);
            due("delay " + delay + ", alpha when it is told", x.alpha(0), delay <= 3 ? 64 : 60);
            due("the other flow is not told", x.rate(1), 64);
            advance(x, 6 + 3 * delay);
            due("told once", x.rate(0), delay <= 3 ? 32 : 34);
        }
    }

    /** "calm becomes 0. Not told: calm grows by 1; when it is 16 then": told at 16, it is not 16 before 32. */
    private static void toldInsteadOfCalm16() {
        PausedFabric x = withOneFlow(3, 40, 40, 2, 0);
        x.inject(0, 3);
        advance(x, 15);
        due("rate at 15", x.rate(0), 64);
        advance(x, 16);
        due("rate at 16", x.rate(0), 32);
        due("alpha at 16", x.alpha(0), 64);
        advance(x, 31);
        due("rate at 31", x.rate(0), 32);
        due("alpha at 31", x.alpha(0), 64);
        advance(x, 32);
        due("rate at 32", x.rate(0), 48);
        due("alpha at 32", x.alpha(0), 60);
    }

    /** "a marked frame of it was received": one that is not marked tells nothing. */
    private static void unmarkedIsNotTold() {
        PausedFabric x = withOneFlow(1, 40, 40, 2, 0);
        injectMany(x, 0, 2, 3);
        due("received", advance(x, 14), 3);
        due("rate", x.rate(0), 64);
        due("alpha", x.alpha(0), 64);
    }

    /**
     * "a marked frame of it was received": one that is marked at a leaf and dropped by the spine
     * tells nothing.
     */
    private static void droppedIsNotTold() {
        PausedFabric x = new PausedFabric(1, 4, 0, 1);
        x.flow(0, 2, 1);
        x.flow(5, 2, 1);
        x.flow(5, 2, 1);
        x.flow(1, 2, 1);
        x.inject(0, 4);
        advance(x, 4);
        x.inject(3, 2);
        advance(x, 8);
        due("marked at the leaf", x.marked(1), true);
        advance(x, 13);
        due("dropped by the spine", x.state(1), 5);
        due("marked still", x.marked(1), true);
        advance(x, 15);
        due("rate of its flow", x.rate(3), 64);
        advance(x, 20);
        due("rate of its flow", x.rate(3), 64);
    }

    /**
     * "the rate becomes less by (rate * alpha) / 128, rounded down .. then alpha becomes (15 * alpha
     * + 64) / 16, rounded down".
     */
    private static void rateIsRoundedDown() {
        PausedFabric x = withRate48();
        due("alpha at 27", x.alpha(0), 60);
        x.inject(0, 2);
        advance(x, 37);
        due("rate at 37", x.rate(0), 48);
        advance(x, 38);
        due("48 less by 22.5, rounded down", x.rate(0), 26);
        due("60.25, rounded down", x.alpha(0), 60);
        advance(x, 54);
        due("(26 + 48 + 1) / 2, rounded down", x.rate(0), 37);
        due("56.25, rounded down", x.alpha(0), 56);
    }

    /** "(and would stay 1 if that were below 1)". */
    private static void rateStays1() {
        PausedFabric x = withOneFlow(3, 40, 40, 1, 0);
        injectMany(x, 0, 2, 7);
        int[] rates = {64, 32, 16, 8, 4, 2, 1, 1};
        for (int told = 1; told <= 7; told++) {
            advance(x, 11 + 2 * told);
            due("rate before " + told, x.rate(0), rates[told - 1]);
            advance(x, 12 + 2 * told);
            due("rate told " + told, x.rate(0), rates[told]);
            due("alpha told " + told, x.alpha(0), 64);
        }
        advance(x, 42);
        due("(1 + 1 + 1) / 2, rounded down", x.rate(0), 1);
        due("alpha at 42", x.alpha(0), 60);
    }

    /** With the delay 8 it is first told at 29, when alpha is 60, which takes less than 1 from the rate 2. */
    private static void rateStays2() {
        PausedFabric x = withOneFlow(8, 40, 40, 1, 0);
        injectMany(x, 0, 2, 9);
        int[] rates = {64, 34, 19, 11, 6, 4, 3, 2, 2, 2};
        for (int told = 1; told <= 9; told++) {
            advance(x, 26 + 2 * told);
            due("rate before " + told, x.rate(0), rates[told - 1]);
            advance(x, 27 + 2 * told);
            due("rate told " + told, x.rate(0), rates[told]);
            due("alpha told " + told, x.alpha(0), 60);
        }
    }

    /** "the rate becomes (rate + target + 1) / 2, rounded down": from 32 up to the target 64, and not beyond. */
    private static void rateRisesAgain() {
        PausedFabric x = withOneFlow(1, 40, 40, 1, 0);
        x.inject(0, 2);
        int[] rates = {32, 48, 56, 60, 62, 63, 64, 64};
        for (int i = 0; i < rates.length; i++) {
            advance(x, 8 + 16 * i);
            due("rate at " + (8 + 16 * i), x.rate(0), rates[i]);
            advance(x, 8 + 16 * i + 15);
            due("rate before " + (8 + 16 * i + 16), x.rate(0), rates[i]);
        }
    }

    private static final int[] ALPHAS = {
        64, 60, 56, 52, 48, 45, 42, 39, 36, 33, 30, 28, 26, 24, 22, 20, 18, 16,
        15, 14, 13, 12, 11, 10, 9, 8, 7, 6, 5, 4, 3, 2, 1, 0, 0
    };

    /** "alpha becomes (15 * alpha) / 16, rounded down". */
    private static void alphaFallsToZero() {
        PausedFabric x = withOneFlow(1, 8, 8, 8, 0);
        for (int i = 0; i < ALPHAS.length; i++) {
            advance(x, 16 * i);
            due("alpha at " + 16 * i, x.alpha(0), ALPHAS[i]);
        }
    }

    /**
     * "alpha becomes (15 * alpha + 64) / 16, rounded down": from 33 it becomes 34.9, so 34, and then
     * 35.8, so 35.
     */
    private static void alphaIsRoundedDown() {
        PausedFabric x = withOneFlow(1, 40, 40, 1, 0);
        advance(x, 16 * 9);
        due("alpha", x.alpha(0), 33);
        x.inject(0, 2);
        x.inject(0, 2);
        advance(x, 16 * 9 + 8);
        due("64 less by 16.5, rounded down", x.rate(0), 48);
        due("alpha told once", x.alpha(0), 34);
        advance(x, 16 * 9 + 10);
        due("48 less by 12.75, rounded down", x.rate(0), 36);
        due("alpha told twice", x.alpha(0), 35);
    }

    /**
     * At alpha 0 the rate becomes less by 0, and then alpha becomes (15 * 0 + 64) / 16, and then (15
     * * 4 + 64) / 16.
     */
    private static void alphaOfZeroKeepsTheRate() {
        PausedFabric x = withOneFlow(1, 40, 40, 1, 0);
        advance(x, 16 * 34);
        due("alpha", x.alpha(0), 0);
        x.inject(0, 2);
        x.inject(0, 2);
        advance(x, 16 * 34 + 8);
        due("rate told once", x.rate(0), 64);
        due("alpha told once", x.alpha(0), 4);
        advance(x, 16 * 34 + 10);
        due("rate told twice", x.rate(0), 62);
        due("alpha told twice", x.alpha(0), 7);
        advance(x, 16 * 34 + 26);
        due("rate after 16 calm ticks", x.rate(0), 63);
        due("alpha after 16 calm ticks", x.alpha(0), 6);
    }

    /**
     * "1. what is being sent and ends now, ends .. 3. What arrives now, arrives": at 10 the place of
     * the first is free.
     */
    private static void endsBeforeArrivals() {
        PausedFabric x = withOneFlow(1, 4, 0, 40, 1);
        x.inject(0, 4);
        x.inject(0, 4);
        advance(x, 9);
        due("held at 9", x.held(0, 8, 1), 4);
        advance(x, 10);
        due("held at 10", x.held(0, 8, 1), 4);
        due("the first has ended", x.state(0), 3);
        due("the second is held and sent", x.state(1), 2);
        due("nothing is dropped", x.dropped(0), 0);
    }

    /** At 10 leaf 8 ceases to ask, as the first frame ends, and begins again, as the second arrives. */
    private static void ceasesAndBeginsInOneTick() {
        PausedFabric x = withOneFlow(1, 4, 0, 40, 0);
        x.inject(0, 4);
        x.inject(0, 4);
        for (int t = 1; t <= 16; t++) {
            x.tick(1);
            due("asks at " + t, x.asks(0, 8), t >= 6 && t <= 13);
            due("paused at " + t, x.paused(0, 8), t >= 7 && t <= 14);
        }
        due("nothing is dropped", x.dropped(0), 0);
    }

    /**
     * "2. Every flow is told or not .. 4. Every port that sends nothing chooses": told at 8, it
     * begins at 8 with the rate 32.
     */
    private static void tellsBeforeChoosing() {
        PausedFabric x = withOneFlow(1, 40, 40, 1, 0);
        x.inject(0, 2);
        advance(x, 7);
        x.inject(0, 1);
        x.inject(0, 1);
        advance(x, 8);
        due("begins at 8", x.state(1), 2);
        advance(x, 9);
        due("the next must wait at 9", x.state(2), 1);
        advance(x, 10);
        due("and begins at 10", x.state(2), 2);
    }

    /**
     * "3. What arrives now, arrives .. 4. Every port that sends nothing chooses", also one whose
     * sending has just ended.
     */
    private static void arrivesBeforeChoosing() {
        PausedFabric x = withOneFlow(1, 40, 40, 40, 0);
        injectMany(x, 0, 1, 3);
        for (int t = 3; t <= 5; t++) {
            advance(x, t);
            due("sent on when it arrives at " + t, x.state(t - 3), 2);
            due("by the leaf", x.node(t - 3), 8);
            due("the queue at the leaf", x.queued(8, 1, 0), 0);
        }
        due("the first is received at 5", x.state(0), 4);
    }

    /** "at each node in the order of the numbers of the nodes from which it comes": host 0 before host 1. */
    private static void hostsArriveInOrder() {
        PausedFabric x = new PausedFabric(1, 40, 40, 1);
        int[] froms = {1, 4, 4, 0};
        for (int from : froms) {
            x.flow(from, 2, 0);
        }
        x.inject(0, 1);
        x.inject(3, 1);
        advance(x, 3);
        due("the frame of host 0", x.state(1), 2);
        due("is not marked, as its queue was 1", x.marked(1), false);
        due("the frame of host 1", x.state(0), 1);
        due("is marked, as its queue was 2", x.marked(0), true);
        advance(x, 4);
        due("the frame of host 1 is next", x.state(0), 2);
    }

    /** Frames of the leaves 10, 9 and 8 reach spine 12 at 5, and are put into its queue in the order 8, 9, 10. */
    private static void leavesArriveInOrder() {
        PausedFabric x = new PausedFabric(1, 40, 40, 2);
        int[] froms = {4, 7, 7, 2, 7, 0};
        for (int from : froms) {
            x.flow(from, 6, 1);
        }
        x.inject(0, 1);
        x.inject(3, 1);
        x.inject(5, 1);
        for (int k = 2; k >= 0; k--) {
            advance(x, 7 - k);
            due("frame " + k + " is sent", x.state(k), 2);
            due("by spine 12", x.node(k), 12);
            due("marked", x.marked(k), k == 0);
        }
    }

    /**
     * Frames of host 1, spine 12 and spine 13 for host 0 reach leaf 8 at 7, and are put into its
     * queue in this order.
     */
    private static void spinesArriveInOrder() {
        PausedFabric x = new PausedFabric(1, 40, 40, 2);
        x.flow(1, 0, 0);
        x.flow(2, 0, 0);
        x.flow(7, 1, 0);
        x.flow(4, 0, 0);
        x.inject(1, 1);
        x.inject(3, 1);
        advance(x, 4);
        x.inject(0, 1);
        int[] order = {2, 1, 0};
        for (int i = 0; i < 3; i++) {
            advance(x, 7 + i);
            due("frame " + order[i] + " is sent", x.state(order[i]), 2);
            due("by leaf 8", x.node(order[i]), 8);
            due("marked", x.marked(order[i]), i == 2);
        }
    }

    /** "(The time is 0 at first, and no tick was before the one at the time 1.)" */
    private static void timeIsZeroAtFirst() {
        PausedFabric x = withOneFlow(8, 4, 0, 1, 0);
        due("clock", x.clock(), 0);
        x.inject(0, 4);
        due("clock after other calls", x.clock(), 0);
        for (int t = 1; t <= 8; t++) {
            x.tick(1);
            due("clock", x.clock(), t);
            due("paused at " + t, x.paused(0, 8), false);
            due("rate at " + t, x.rate(0), 64);
            due("alpha at " + t, x.alpha(0), 64);
        }
    }
}
