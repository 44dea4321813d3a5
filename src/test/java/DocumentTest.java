import java.util.Random;

/**
 * The sentences of the document that the other tests leave out, from its first line on, and the
 * rules of LANGUAGE.md that can be told from the answers. What is due is reckoned from the
 * sentences; where the reckoning is longer, it stands above the function.
 */
public final class DocumentTest {
    private static final int NONE = -1;
    private static int wrong = 0;

    public static void main(String[] args) {
        for (int seed = 0; seed < 400; seed++) {
            neverLostWithRoomEnough(seed);
        }
        lostWithoutRoomEnough();
        readmeExample();
        everyRoute();
        framesAreNumberedAcrossFlows();
        leafPausesASpine();
        spinePausesEachLeafApart();
        aHostNeverPausesItsLeaf();
        heldAtEachSwitchInTurn();
        toldInTicksThatFollow();
        unmarkedBetweenMarked();
        twoFlowsAreToldApart();
        waitOfOneFlowIsNotThatOfAnother();
        shareCountsFromTheNextTurn();
        objectsWorkApart();
        sameCallsSameAnswers();
        for (int seed = 0; seed < 200; seed++) {
            noCallThrows(seed);
        }
        if (wrong != 0) {
            System.out.println(wrong + " answers are not as due");
            System.exit(1);
        }
    }

    private static void due(String what, long got, long want) {
        if (got != want) {
            wrong++;
            System.out.println(what + " answered " + got + ", due is " + want);
        }
    }

    private static void due(String what, boolean got, boolean want) {
        due(what, got ? 1 : 0, want ? 1 : 0);
    }

    private static void injectMany(PausedFabric x, int f, int length, int count) {
        for (int i = 0; i < count; i++) {
            x.inject(f, length);
        }
    }

    /** Makes ticks up to a time that is not yet past, and answers how many frames were received. */
    private static int advance(PausedFabric x, int time) {
        int received = 0;
        int left = time - x.clock();
        while (left > 0) {
            int n = Math.min(20, left);
            received += x.tick(n);
            left -= n;
        }
        return received;
    }

    private static void addFlows(PausedFabric x, int[][] fromToPriority) {
        for (int i = 0; i < fromToPriority.length; i++) {
            int[] one = fromToPriority[i];
            due("flow " + i, x.flow(one[0], one[1], one[2]), i);
        }
    }

    /**
     * "frames of one priority are never lost as long as there is room enough". When v begins to ask,
     * at t, less than xoff was held before the frame that arrived, so at most xoff + 3 is held. That
     * frame's sending ended at t - delay; the last sending that may begin before the pause begins at t +
     * delay - 1 and ends by t + delay + 3. In between are 2 * delay + 3 ticks, so no more than that
     * comes: a room of 2 * delay + 6 is enough.
     */
    private static void neverLostWithRoomEnough(int seed) {
        Random random = new Random(seed);
        int delay = 1 + seed % 8;
        int xoff = 4 + random.nextInt(12);
        int room = 2 * delay + 6;
        PausedFabric x = new PausedFabric(delay, xoff, room, 10 + random.nextInt(31));
        int target = random.nextInt(8);
        int[] priorities = new int[10];
        for (int f = 0; f < 10; f++) {
            priorities[f] = random.nextInt(4) == 0 ? 1 : 0;
            int to = random.nextInt(3) == 0 ? random.nextInt(8) : target;
            int from = (to + 1 + random.nextInt(7)) % 8;
            due("flow " + f, x.flow(from, to, priorities[f]), f);
        }
        int[] injected = new int[10];
        for (int k = 0; k < 90; k++) {
            int f = random.nextInt(10);
            injected[f]++;
            x.inject(f, random.nextInt(3) == 0 ? 1 + random.nextInt(4) : 4);
            if (random.nextInt(6) == 0) {
                x.tick(1 + random.nextInt(4));
                due("seed " + seed + ", held from a spine", x.held(12, 8 + target / 2, 0) <= xoff + room, true);
            }
        }
        for (int i = 0; i < 300; i++) {
            x.tick(20);
        }
        for (int f = 0; f < 10; f++) {
            if (priorities[f] == 0) {
                due("seed " + seed + ", dropped of flow " + f, x.dropped(f), 0);
                due("seed " + seed + ", received of flow " + f, x.received(f), injected[f]);
            }
        }
    }

    /**
     * With xoff 4, no room and delay 2, the frame of 4 is held from 7 to 11; the one behind it begins at
     * 5, when nothing is paused yet, and arrives at 11, when there is place again; but one of 1 that
     * begins at 5 arrives at 8.
     */
    private static void lostWithoutRoomEnough() {
        for (int length = 1; length <= 4; length += 3) {
            PausedFabric x = new PausedFabric(2, 4, 0, 40);
            x.flow(0, 1, 0);
            x.inject(0, 4);
            x.inject(0, length);
            advance(x, 40);
            due("lost of length " + length, x.dropped(0), length == 1 ? 1 : 0);
            due("received with length " + length, x.received(0), length == 1 ? 1 : 2);
        }
    }

    /** With delay 2 a frame of length 3 takes 5 ticks for each of four hops, the first of which begins at 1. */
    private static void readmeExample() {
        PausedFabric fabric = new PausedFabric(2, 6, 10, 3);
        due("flow", fabric.flow(0, 7, 0), 0);
        due("inject", fabric.inject(0, 3), 0);
        due("tick(20)", fabric.tick(20), 0);
        due("state", fabric.state(0), 3);
        due("node", fabric.node(0), 11);
        due("tick(1)", fabric.tick(1), 1);
        due("clock", fabric.clock(), 21);
    }

    /** Its ROUTE, from every host to every other one, by spine 12 (flow 0) and by spine 13 (flow 1). */
    private static void everyRoute() {
        for (int from = 0; from < 8; from++) {
            for (int to = 0; to < 8; to++) {
                if (from != to) {
                    oneRoute(from, to, 0);
                    oneRoute(from, to, 1);
                }
            }
        }
    }

    /** With delay 1 a frame of length 1 takes two ticks for each hop, the first of which begins at 1. */
    private static void oneRoute(int from, int to, int number) {
        PausedFabric x = new PausedFabric(1, 4, 0, 1);
        for (int f = 0; f <= number; f++) {
            x.flow(from, to, 1);
        }
        x.inject(number, 1);
        int near = 8 + from / 2;
        int far = 8 + to / 2;
        int[] nodes = near == far ? new int[] {from, near, to} : new int[] {from, near, 12 + number, far, to};
        for (int i = 0; i < nodes.length; i++) {
            advance(x, 1 + 2 * i);
            due("node " + i + " from " + from + " to " + to + " of flow " + number, x.node(0), nodes[i]);
            due("state there", x.state(0), i == nodes.length - 1 ? 4 : 2);
        }
        due("received", x.received(number), 1);
    }

    /** "FRAMES are numbered 0, 1, .. as they are injected": whatever their flow, and also after ticks. */
    private static void framesAreNumberedAcrossFlows() {
        PausedFabric x = new PausedFabric(1, 40, 40, 40);
        addFlows(x, new int[][] {{0, 1, 0}, {2, 3, 1}, {4, 7, 0}});
        int[] order = {2, 0, 1, 1, 2, 0};
        int[] hosts = {0, 2, 4};
        for (int k = 0; k < order.length; k++) {
            due("number", x.inject(order[k], 4), k);
            due("where it is", x.node(k), hosts[order[k]]);
            if (k == 2) {
                x.tick(3);
            }
        }
        due("state of 2", x.state(2), 2);
        due("state of 3", x.state(3), 1);
        due("state of 6", x.state(6), NONE);
    }

    /**
     * The frame of 4 is at leaf 8 from 6, at spine 12 from 11 and at leaf 9 from 16 to 20. So leaf 9 asks
     * spine 12 from 16 to 19, and the port 12 to 9 is paused from 17 to 20. Frames of length 1 begin at
     * 13 at the hosts 4, 5 and 6: that of host 4, for host 3, reaches spine 12 at 17; that of host 5, for
     * host 7, one tick later, as both go by leaf 10; that of host 6, for host 3, of priority 1, at 17.
     */
    private static void leafPausesASpine() {
        PausedFabric x = new PausedFabric(1, 4, 40, 40);
        addFlows(x, new int[][] {{0, 2, 0}, {0, 1, 0}, {0, 1, 0}, {4, 3, 0}, {0, 1, 0}, {5, 7, 0}, {6, 3, 1}});
        x.inject(0, 4);
        advance(x, 12);
        x.inject(3, 1);
        x.inject(5, 1);
        x.inject(6, 1);
        for (int t = 13; t <= 22; t++) {
            x.tick(1);
            due("leaf 9 asks spine 12 at " + t, x.asks(12, 9), t >= 16 && t <= 19);
            due("spine 12 is paused at " + t, x.paused(12, 9), t >= 17 && t <= 20);
            due("not for leaf 11, at " + t, x.paused(12, 11), false);
            due("nor is spine 13, at " + t, x.paused(13, 9), false);
            if (t >= 17 && t <= 20) {
                due("priority 0 for host 3 is not ready at " + t, x.state(1), 1);
                due("at spine 12", x.node(1), 12);
                due("its queue", x.queued(12, 9, 0), 1);
            }
        }
        due("it is sent at 21 and has ended at 22", x.state(1), 3);
        due("that for host 7 was not held up: it is there at 22", x.node(2), 7);
        due("received", x.received(5), 1);
        due("priority 1 was not held up", x.last(6), 3);
    }

    /**
     * The frame of host 0 for host 4 and that of host 2 for host 6 are at spine 12 from 11 to 15: it asks
     * the leaves 8 and 9 then. A frame of host 1 that leaf 8 has for spine 13 goes on.
     */
    private static void spinePausesEachLeafApart() {
        PausedFabric x = new PausedFabric(1, 4, 40, 40);
        addFlows(x, new int[][] {{0, 4, 0}, {1, 5, 0}, {1, 5, 0}, {2, 6, 0}});
        x.inject(0, 4);
        x.inject(3, 4);
        advance(x, 9);
        x.inject(1, 2);
        for (int t = 10; t <= 18; t++) {
            x.tick(1);
            for (int leaf = 8; leaf <= 11; leaf++) {
                due("spine 12 asks " + leaf + " at " + t, x.asks(leaf, 12), leaf <= 9 && t >= 11 && t <= 14);
                due(leaf + " to 12 is paused at " + t, x.paused(leaf, 12), leaf <= 9 && t >= 12 && t <= 15);
                due(leaf + " to 13 is paused at " + t, x.paused(leaf, 13), false);
            }
            if (t == 13) {
                due("the frame for spine 13 is sent by leaf 8", x.state(2), 2);
                due("at leaf 8", x.node(2), 8);
            }
        }
    }

    /** A host never asks: whatever it receives, the port of its leaf to it is not paused. */
    private static void aHostNeverPausesItsLeaf() {
        PausedFabric x = new PausedFabric(1, 4, 40, 40);
        addFlows(x, new int[][] {{0, 1, 0}, {2, 1, 0}, {4, 1, 0}});
        for (int f = 0; f < 3; f++) {
            injectMany(x, f, 4, 8);
        }
        boolean bothPaused = false;
        for (int t = 1; t <= 110; t++) {
            x.tick(1);
            bothPaused |= x.paused(0, 8) && x.paused(13, 8);
            due("paused(8, 1) at " + t, x.paused(8, 1), false);
            due("asks(8, 1) at " + t, x.asks(8, 1), false);
        }
        due("leaf 8 paused both a host and a spine", bothPaused, true);
    }

    /**
     * "A switch HOLDS a frame from the time it arrives to the time its sending ends there": with delay 3 a
     * frame of length 2 is at leaf 10 from 6 to 8, at spine 13 from 11 to 13 and at leaf 8 from 16 to 18.
     */
    private static void heldAtEachSwitchInTurn() {
        PausedFabric x = new PausedFabric(3, 40, 40, 40);
        addFlows(x, new int[][] {{5, 0, 1}, {5, 0, 1}});
        x.inject(1, 2);
        int[][] ports = {{5, 10}, {10, 13}, {13, 8}, {8, 0}};
        for (int t = 1; t <= 22; t++) {
            x.tick(1);
            for (int i = 0; i < ports.length; i++) {
                boolean there = i < 3 && t >= 6 + 5 * i && t < 8 + 5 * i;
                due("held by port " + i + " at " + t, x.held(ports[i][0], ports[i][1], 1), there ? 2 : 0);
                due("held the other way at " + t, x.held(ports[i][1], ports[i][0], 1), 0);
                due("held of priority 0 at " + t, x.held(ports[i][0], ports[i][1], 0), 0);
            }
        }
        due("received", x.received(1), 1);
    }

    /**
     * Mark 1. The frame of 4 reaches leaf 8 at 5 + delay, where its sending ends at 9 + delay; it is
     * marked, and told at 9 + 3 * delay. Three frames of 1 follow, at 6, 7 and 8 + delay, into a queue of
     * 1, 2 and 3: the last two are marked, and told at 11 and 12 + 3 * delay, but not at 10.
     * At the time 16 alpha becomes 60, and at 32 it becomes 56, if the flow was not told before.
     */
    private static void toldInTicksThatFollow() {
        int[][] due = {
            {64, 32, 32, 16, 8}, {64, 34, 34, 19, 11}, {64, 36, 36, 21, 12}
        };
        for (int delay = 1; delay <= 8; delay++) {
            PausedFabric x = new PausedFabric(delay, 40, 40, 1);
            x.flow(0, 1, 0);
            x.inject(0, 4);
            injectMany(x, 0, 1, 3);
            int[] rates = due[delay <= 2 ? 0 : delay <= 7 ? 1 : 2];
            for (int i = 0; i < 5; i++) {
                advance(x, 8 + i + 3 * delay);
                due("delay " + delay + ", rate " + i, x.rate(0), rates[i]);
            }
            boolean[] marked = {true, false, true, true};
            for (int k = 0; k < 4; k++) {
                due("marked(" + k + ")", x.marked(k), marked[k]);
            }
            advance(x, 27 + 3 * delay);
            due("delay " + delay + ", rate before it rises", x.rate(0), rates[4]);
            advance(x, 28 + 3 * delay);
            due("delay " + delay + ", half way to the target", x.rate(0), (rates[4] + rates[3] + 1) / 2);
        }
    }

    /** The same with delay 1: told at 12, 14 and 15, so that the next calm of 16 is at 31, with the target 16. */
    private static void unmarkedBetweenMarked() {
        PausedFabric x = new PausedFabric(1, 40, 40, 1);
        x.flow(0, 1, 1);
        x.inject(0, 4);
        injectMany(x, 0, 1, 3);
        int[] times = {11, 12, 13, 14, 15, 30, 31, 46, 47, 63};
        int[] rates = {64, 32, 32, 16, 8, 8, 12, 12, 14, 15};
        int[] alphas = {64, 64, 64, 64, 64, 64, 60, 60, 56, 52};
        for (int i = 0; i < times.length; i++) {
            advance(x, times[i]);
            due("rate at " + times[i], x.rate(0), rates[i]);
            due("alpha at " + times[i], x.alpha(0), alphas[i]);
        }
    }

    /**
     * Frames of length 1 of the hosts 0 and 1 reach leaf 8 at 3 for spine 12, that of host 1 into a queue
     * of 2, mark 1: it alone is marked, reaches host 2 at 10, and its flow is told at 11. Both flows have
     * the same hosts at their ends as another one each, which is not told.
     */
    private static void twoFlowsAreToldApart() {
        PausedFabric x = new PausedFabric(1, 40, 40, 1);
        addFlows(x, new int[][] {{0, 2, 0}, {0, 2, 0}, {1, 2, 0}, {1, 2, 0}});
        x.inject(0, 1);
        x.inject(3, 1);
        advance(x, 10);
        for (int f = 0; f < 4; f++) {
            due("rate at 10 of " + f, x.rate(f), 64);
        }
        advance(x, 11);
        for (int f = 0; f < 4; f++) {
            due("rate at 11 of " + f, x.rate(f), f == 3 ? 32 : 64);
        }
        due("received", x.received(0) + x.received(3), 2);
    }

    /**
     * Told at 8, flow 0 has the rate 32: having begun a frame of 2 at 11, it must wait until 15. The
     * frame of flow 1, which is in the same queue, is sent at 13 when it stands before the next of flow 0,
     * and after it, at 16, when it stands behind it.
     */
    private static void waitOfOneFlowIsNotThatOfAnother() {
        for (int first = 0; first < 2; first++) {
            PausedFabric x = new PausedFabric(1, 40, 40, 1);
            addFlows(x, new int[][] {{0, 1, 0}, {0, 1, 0}});
            x.inject(0, 2);
            advance(x, 10);
            due("rate", x.rate(0), 32);
            x.inject(0, 2);
            x.inject(first, 1);
            x.inject(1 - first, 1);
            int ofFlow0 = first == 0 ? 2 : 3;
            int ofFlow1 = 5 - ofFlow0;
            for (int t = 11; t <= 16; t++) {
                x.tick(1);
                due("flow 0 at " + t, x.state(ofFlow0), t < 15 ? 1 : t == 15 ? 2 : 3);
                int begins = first == 0 ? 16 : 13;
                if (t <= begins) {
                    due("flow 1 at " + t, x.state(ofFlow1), t < begins ? 1 : 2);
                }
            }
        }
    }

    /**
     * "The quantum of a priority becomes this one. (Credits stay.)" Host 0 has frames of 1 in both queues.
     * At 1 the turn goes to priority 1, with the credit 1, and at 2 to priority 0. With a quantum of 3
     * for priority 1 from then on, it sends at 3, 4 and 5, and priority 0 at 6.
     */
    private static void shareCountsFromTheNextTurn() {
        PausedFabric x = new PausedFabric(1, 40, 40, 40);
        addFlows(x, new int[][] {{0, 1, 0}, {0, 1, 1}});
        injectMany(x, 0, 1, 10);
        injectMany(x, 1, 1, 10);
        int[] priorities = {1, 0, 1, 1, 1, 0, 1, 1, 1, 0};
        int[] left = {10, 10};
        for (int t = 1; t <= 10; t++) {
            x.tick(1);
            left[priorities[t - 1]]--;
            due("priority 0 at " + t, x.queued(0, 8, 0), left[0]);
            due("priority 1 at " + t, x.queued(0, 8, 1), left[1]);
            if (t == 2) {
                due("share", x.share(1, 3), true);
            }
        }
    }

    /** One of the calls, with arguments that are mostly of use; its answer as a number. */
    private static long anyCall(PausedFabric x, int kind, int a, int b, int c) {
        switch (kind) {
            case 0: return x.flow(a, b, c);
            case 1: return x.share(a, b) ? 1 : 0;
            case 2: return x.inject(a, b);
            case 3: return x.tick(a);
            case 4: return x.clock();
            case 5: return x.state(a);
            case 6: return x.node(a);
            case 7: return x.marked(a) ? 1 : 0;
            case 8: return x.queued(a, b, c);
            case 9: return x.held(a, b, c);
            case 10: return x.asks(a, b) ? 1 : 0;
            case 11: return x.paused(a, b) ? 1 : 0;
            case 12: return x.rate(a);
            case 13: return x.alpha(a);
            case 14: return x.received(a);
            case 15: return x.dropped(a);
            default: return x.last(a);
        }
    }

    /** Fills a fabric by a seed and answers a number that depends on all that it then answers. */
    private static long story(PausedFabric x, PausedFabric beside, int seed) {
        Random random = new Random(seed);
        long sum = 0;
        for (int i = 0; i < 400; i++) {
            int kind = i < 20 ? 0 : random.nextInt(17);
            int a = random.nextInt(8);
            int b = kind >= 8 && kind <= 11 ? 8 + a / 2 : random.nextInt(8);
            int c = random.nextInt(2);
            sum = 31 * sum + anyCall(x, kind, a, b, c);
            if (beside != null) {
                anyCall(beside, random.nextInt(17), b, a, 1 - c);
            } else {
                random.nextInt(17);
            }
        }
        return sum;
    }

    /** What is done to one object is not seen by another one. */
    private static void objectsWorkApart() {
        for (int seed = 0; seed < 50; seed++) {
            PausedFabric beside = new PausedFabric(2, 6, 3, 1);
            long alone = story(new PausedFabric(1, 5, 2, 2), null, seed);
            long together = story(new PausedFabric(1, 5, 2, 2), beside, seed);
            due("seed " + seed + ", beside another object", together, alone);
        }
    }

    /** "the same calls always give the same answers". */
    private static void sameCallsSameAnswers() {
        for (int seed = 0; seed < 50; seed++) {
            long first = story(new PausedFabric(3, 4, 1, 1), null, seed);
            long second = story(new PausedFabric(3, 4, 1, 1), null, seed);
            due("seed " + seed + ", once more", second, first);
        }
    }

    private static final int[] ODD = {
        Integer.MIN_VALUE, Integer.MIN_VALUE + 1, -100, -2, -1, 0, 1, 2, 4, 5, 7, 8, 9, 11, 12, 13, 14, 20, 21, 99, 100,
        1 << 16, 1 << 30, Integer.MAX_VALUE - 1, Integer.MAX_VALUE
    };

    private static int odd(Random random, int usual) {
        return random.nextInt(4) == 0 ? ODD[random.nextInt(ODD.length)] : random.nextInt(usual);
    }

    /** No call throws or fails to end, whatever its arguments, also beyond the 512th. */
    private static void noCallThrows(int seed) {
        Random random = new Random(seed);
        PausedFabric x = new PausedFabric(odd(random, 9), odd(random, 41), odd(random, 41), odd(random, 41));
        for (int i = 0; i < 1200; i++) {
            int kind = random.nextInt(17);
            int a = odd(random, kind == 3 ? 21 : 14);
            int b = odd(random, kind <= 2 ? 8 : 14);
            int c = odd(random, 2);
            try {
                anyCall(x, kind, a, b, c);
            } catch (RuntimeException | StackOverflowError thrown) {
                wrong++;
                System.out.println("call " + kind + " (" + a + ", " + b + ", " + c + ") threw " + thrown);
            }
        }
    }
}
