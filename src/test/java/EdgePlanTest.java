/** The edges of promises 23 to 28 and 39 to 42 and of sections 3 and 4: the plan and its minutes. */
final class EdgePlanTest {
    private static final Check check = new Check("EdgePlanTest");
    private static final String TWO = "version a 1 1;version b 1 1;talks a b;place p;place q;place r;";

    public static void main(String[] args) {
        doneAtOnce();
        firstStep();
        allSteps();
        ready();
        complete();
        changesEndFirst();
        overTheLimit();
        whoseMeasures();
        stopAheadOfAll();
        soakingTime();
        nextWave();
        beginning();
        soaksAtOnce();
        numbersOfPlan();
        stopAndGo();
        startInPlace();
        laggingAndBlocked();
        inWave();
        share();
        meanMeasure();
        pass();
        check.end();
    }

    private static String each(String statement, int from, int to) {
        StringBuilder all = new StringBuilder();
        for (int k = from; k < to; k++) {
            all.append(statement.replace('#', (char) ('a' + k)));
        }
        return all.toString();
    }

    /** Eight versions that may all talk with one another, and three places of which the first two are a wave each. */
    private static String eight() {
        String all = "skew 7;down 12;" + each("version # 1 1;", 0, 8);
        for (int from = 0; from < 8; from++) {
            all += each("talks " + (char) ('a' + from) + " #;", from + 1, 8);
        }
        return all + "place p;place q;place r;wave p;wave q;";
    }

    private static void plan(WaveUpgrade x, int... due) {
        for (int what = 0; what < due.length; what++) {
            check.same("plan(" + what + ") at " + x.setting(11), x.plan(what), due[what]);
        }
    }

    private static void event(WaveUpgrade x, int i, int... due) {
        for (int what = 0; what < 4; what++) {
            check.same("event(" + i + ", " + what + ") at " + x.setting(11), x.event(i, what), due[what]);
        }
    }

    // ---- section 3

    private static void doneAtOnce() {
        check.sentence("if all planned members that are not held back have the target as their coming version (or there are none), it"
                + " is done at once.");
        done(TWO + "wave p;", 0);
        done(TWO + "wave p;", 1);
        done(TWO + "member m p a;wave p;", 0);
        done(TWO + "member m p b;wave p;", 1);
        done(TWO + "member m p a held;wave p;", 1);
        done(TWO + "member m p a held;member n q b;wave p q;", 1);
        done(TWO + "member m p a;member n p b held;member o q a;wave p;wave q;", 0);
        done(TWO + "member m r a;wave p;wave q;", 1);
        done(TWO + "member m r a;member n p b;wave p;", 1);
        done(eight() + "member m p h;member n q h;member o r a;", 7);
        check.sentence("The coming version of a member is its version if it is up, otherwise the next one.");
        WaveUpgrade x = Check.cluster(TWO + "member m p a;wave p;");
        x.change(0, 1);
        check.same("what comes counts, though it is down", x.start(1), -1);
        plan(x, 4, -1, -1, -1, -1);
        WaveUpgrade y = Check.cluster(TWO + "member m p b;wave p;");
        y.change(0, 0);
        check.same("what was does not count", y.start(1), 1);
        WaveUpgrade z = Check.cluster(TWO + "member m p b;member n p a;wave p;");
        check.same("one of two has another one", z.start(1), 1);
        check.same("one event", z.events(), 1);
    }

    private static void done(String text, int target) {
        WaveUpgrade x = Check.cluster(text);
        x.pass(4);
        check.same("start(" + target + ") of <" + text + ">", x.start(target), -1);
        plan(x, 4, -1, -1, -1, -1);
        check.same("two events", x.events(), 2);
        event(x, 1, 4, 2, -1, target);
        event(x, 0, 4, 6, -1, target);
        check.same("lagging()", x.lagging(), 0);
        check.same("blocked()", x.blocked(), 0);
        check.same("minutesToEnd(0)", x.minutesToEnd(0), 0);
        x.pass(99);
        check.same("nothing comes behind it", x.events(), 2);
        check.same("start again", x.start(target), -1);
        check.same("undo", x.undo(), 3);
        check.same("undo", x.undo(), 2);
        check.same("undo", x.undo(), 1);
        plan(x, 0, -1, -1, -1, -1);
    }

    private static void firstStep() {
        check.sentence("Otherwise, if one of them has a lower one, the plan goes up: the first step is the lowest of their coming"
                + " versions, and 1 more; else it goes down: the first step is the highest one less 1. The plan is rolling in wave 0.");
        step("member m p a;", 7, 1);
        step("member m p a;", 1, 1);
        step("member m p g;", 7, 7);
        step("member m p h;", 0, 6);
        step("member m p h;", 6, 6);
        step("member m p b;", 0, 0);
        step("member m p d;", 4, 4);
        step("member m p d;", 2, 2);
        step("member m p d;", 7, 4);
        step("member m p d;", 0, 2);
        step("member m p a;member n q h;", 7, 1);
        step("member m p a;member n q h;", 0, 6);
        step("member m p a;member n q h;", 1, 1);
        step("member m p a;member n q h;", 6, 1);
        step("member m p c;member n q h;", 2, 6);
        step("member m p c;member n q h;", 3, 3);
        step("member m p c;member n q h;", 1, 6);
        step("member m q h;member n p c;", 1, 6);
        step("member m p a held;member n q d;", 7, 4);
        step("member m p a held;member n q d;", 0, 2);
        step("member m p h held;member n q d;", 0, 2);
        check.sentence("The planned members are those in the places of waves.");
        step("member m r a;member n q d;", 7, 4);
        step("member m r h;member n q d;", 0, 2);
        step("member m r a;member n q d;", 3, -1);
        WaveUpgrade x = Check.cluster(eight() + "member m p a;member n q f;");
        x.change(0, 2);
        check.same("what comes counts upwards", x.start(7), 3);
        x.stop();
        x.change(1, 4);
        check.same("what comes counts downwards", x.start(0), 3);
    }

    private static void step(String members, int target, int due) {
        WaveUpgrade x = Check.cluster(eight() + members);
        check.same("start(" + target + ") of <" + members + ">", x.start(target), due);
        if (due >= 0) {
            plan(x, 1, target, due, 0, -1);
            check.same("one event", x.events(), 1);
            event(x, 0, 0, 2, -1, target);
        }
    }

    private static void allSteps() {
        check.sentence("behind the last one wave 0 with the next step (1 more or 1 less); if the step was the target, the plan is done"
                + " instead.");
        for (int target : new int[] {7, 0}) {
            WaveUpgrade x = Check.cluster(eight() + "member m p " + (target == 7 ? "a" : "h") + ";takes 1;soak 0;");
            x.start(target);
            check.same("minutesToEnd", x.minutesToEnd(2000), 1 + 7 * 3);
            for (int k = 1; k <= 7; k++) {
                int step = target == 7 ? k : 7 - k;
                // Each next step begins within the minute in which the last wave ends.
                x.pass(1);
                plan(x, 1, target, step, 0, -1);
                check.same("the next version", x.member(0, 2), step);
                x.pass(1);
                plan(x, 2, target, step, 0, x.setting(11));
                check.same("the version", x.member(0, 1), step);
                x.pass(1);
                plan(x, 2, target, step, 1, x.setting(11));
            }
            x.pass(1);
            plan(x, 4, -1, -1, -1, -1);
            event(x, 0, 22, 6, -1, target);
            check.same("the last version", x.member(0, 1), target);
        }
        WaveUpgrade y = Check.cluster(eight() + "member m p d;takes 1;soak 0;");
        y.start(4);
        y.pass(4);
        plan(y, 4, -1, -1, -1, -1);
        check.same("no step behind the target", y.member(0, 1), 4);
    }

    private static void ready() {
        check.sentence("A planned member that is not held back is ready for a step if it is up and its version is not lower than the"
                + " step (for a plan that goes up) or not higher (for one that goes down).");
        String five = "member k p c;member l p d;member m p e;member n p f;member o p g;";
        WaveUpgrade x = Check.cluster(eight() + five);
        check.same("upwards", x.start(7), 3);
        check.same("those below step 3", x.lagging(), 1);
        x.stop();
        check.same("downwards", x.start(0), 5);
        check.same("those above step 5", x.lagging(), 16);
        x.stop();
        x.change(0, 3);
        check.same("upwards, what comes", x.start(7), 4);
        check.same("those below step 4, and the one that is down", x.lagging(), 3);
        x.stop();
        x.change(4, 5);
        check.same("downwards, what comes", x.start(0), 4);
        check.same("those above step 4, and those that are down", x.lagging(), 1 + 8 + 16);
        x.hold(1, true);
        x.hold(3, true);
        check.same("those held back, too, if they have no such version", x.lagging(), 1 + 8 + 16);
    }

    private static void complete() {
        check.sentence("A wave is complete if all planned members of its places that are not held back are ready.");
        WaveUpgrade x = Check.cluster(TWO + "member k p a;member l p a held;member m q a;wave p;wave q;takes 2;soak 4;");
        x.start(1);
        x.pass(2);
        plan(x, 1, 1, 1, 0, -1);
        x.pass(1);
        plan(x, 2, 1, 1, 0, 7);
        WaveUpgrade y = Check.cluster(TWO + "member k p a;member l q a;wave p q;takes 2;soak 4;");
        y.hold(1, true);
        y.start(1);
        y.hold(1, false);
        y.pass(1);
        check.same("both begin", y.down(0) + y.down(1), 3);
        y.hold(0, true);
        y.hold(1, true);
        y.pass(1);
        plan(y, 2, 1, 1, 0, 6);
        check.same("two are down and held back", y.lagging(), 3);
        WaveUpgrade z = Check.cluster(TWO + "member k p a;member l p a;wave p;takes 2;soak 4;");
        z.start(1);
        z.pass(3);
        plan(z, 1, 1, 1, 0, -1);
        check.same("one is ready, the other is down", z.lagging(), 2);
        z.pass(1);
        plan(z, 1, 1, 1, 0, -1);
        z.pass(1);
        plan(z, 2, 1, 1, 0, 9);
    }

    // ---- section 4

    private static void changesEndFirst() {
        check.sentence("(a) The clock increases by 1. Changes that end at it end, by number of the members.");
        WaveUpgrade x = Check.cluster(TWO + "member k p a;member l q a;member m r a;takes 3;");
        x.change(2, 1);
        x.change(0, 1);
        x.pass(1);
        x.change(1, 1);
        x.pass(1);
        check.same("nobody yet", x.with(1), 0);
        x.pass(1);
        event(x, 1, 3, 1, 0, 1);
        event(x, 0, 3, 1, 2, 1);
        check.same("two of them", x.with(1), 5);
        x.pass(1);
        event(x, 0, 4, 1, 1, 1);
        check.same("all of them", x.with(1), 7);
        check.sentence("(b) If the plan is rolling or soaking, and the mean of the measures of those planned members that are ready for"
                + " the step");
        WaveUpgrade y = Check.cluster(TWO + "member k p b;member l p a;wave p;limit 20;");
        y.report(1, 999);
        y.start(1);
        y.pass(5);
        y.report(0, 25);
        check.same("the mean ahead of the minute", y.meanMeasure(), 25.0);
        check.same("wouldStop: half of it", y.wouldStop(0, 40), false);
        check.same("wouldStop: half of it", y.wouldStop(0, 41), true);
        y.pass(1);
        plan(y, 2, 1, 1, 0, 16);
        check.same("the mean behind the minute", y.meanMeasure(), 12.5);
    }

    private static void overTheLimit() {
        check.sentence("is greater than the limit, it is stopped.");
        int[][] cases = {{10, 10, 10, 0}, {10, 11, 10, 1}, {10, 10, 11, 1}, {10, 11, 9, 0}, {10, 20, 0, 0}, {10, 21, 0, 1}, {0, 0, 0, 0},
            {0, 1, 0, 1}, {0, 0, 1, 1}, {1, 1, 1, 0}, {1, 2, 1, 1}, {999, 999, 999, 0}, {998, 998, 998, 0}, {998, 999, 998, 1},
            {998, 999, 999, 1}, {50, 51, 50, 1}, {50, 50, 50, 0}};
        for (int[] each : cases) {
            WaveUpgrade x = Check.cluster(TWO + "member k p b;member l p b;member m p a;wave p;soak 3;limit " + each[0] + ";");
            x.report(0, each[1]);
            x.report(1, each[2]);
            x.start(1);
            String name = each[1] + " and " + each[2] + " against " + each[0];
            check.same("the mean: " + name, x.meanMeasure(), (each[1] + each[2]) / 2.0);
            check.same("wouldStop: " + name, x.wouldStop(0, each[1]), each[3] == 1);
            x.pass(1);
            check.same("rolling: " + name, x.plan(0), each[3] == 1 ? 3 : 1);
            check.same("the change begins: " + name, x.down(0), each[3] == 1 ? 0 : 4);
            check.same("the event: " + name, x.event(0, 1), each[3] == 1 ? 4 : 0);
            WaveUpgrade y = Check.cluster(TWO + "member k p b;member l p b;member m q a;wave p;wave q;soak 3;limit " + each[0] + ";");
            y.start(1);
            y.pass(1);
            plan(y, 2, 1, 1, 0, 4);
            y.report(0, each[1]);
            y.report(1, each[2]);
            y.pass(1);
            plan(y, each[3] == 1 ? 3 : 2, 1, 1, 0, 4);
        }
        WaveUpgrade z = Check.cluster(TWO + "member k p b;member l p b;member m p b;member n q a;wave p;wave q;limit 10;");
        z.report(0, 31);
        z.start(1);
        z.pass(1);
        check.same("a third above", z.plan(0), 3);
        z.report(0, 30);
        z.go();
        z.pass(1);
        check.same("a mean of thirds", z.plan(0), 2);
    }

    private static void whoseMeasures() {
        check.sentence("(held back or not, if they are up and have such a version)");
        String text = TWO + "member k p b held;member l p a;member m q b;member n q a held;member o r b;wave p;wave q;limit 10;";
        WaveUpgrade x = Check.cluster(text);
        x.report(1, 999);
        x.report(3, 999);
        x.report(4, 999);
        x.start(1);
        check.same("none of those not ready, nor of those not planned", x.meanMeasure(), 0.0);
        x.report(0, 21);
        check.same("of the one held back and of the other wave", x.meanMeasure(), 10.5);
        x.pass(1);
        plan(x, 3, 1, 1, 0, -1);
        WaveUpgrade y = Check.cluster(text);
        y.report(2, 21);
        y.start(1);
        check.same("of another wave", y.meanMeasure(), 10.5);
        y.change(2, 0);
        check.same("not of one that is down", y.meanMeasure(), 0.0);
        y.pass(1);
        plan(y, 1, 1, 1, 0, -1);
        check.same("it began", y.down(0), 2);
        WaveUpgrade z = Check.cluster(TWO + "member k p a;wave p;limit 0;");
        z.report(0, 999);
        z.start(1);
        z.pass(1);
        plan(z, 1, 1, 1, 0, -1);
        check.same("of nobody", z.meanMeasure(), 0.0);
        WaveUpgrade v = Check.cluster(eight() + "member k p f;member l q c;limit 10;");
        v.report(1, 11);
        check.same("downwards", v.start(2), 4);
        check.same("those that are not higher", v.meanMeasure(), 11.0);
        v.pass(1);
        plan(v, 3, 2, 4, 0, -1);
    }

    private static void stopAheadOfAll() {
        check.sentence("When a minute passes, this happens in this order:");
        WaveUpgrade x = Check.cluster(TWO + "member k p b;member l q a;wave p;wave q;soak 3;limit 10;takes 1;");
        x.start(1);
        x.pass(3);
        plan(x, 2, 1, 1, 0, 4);
        x.report(0, 11);
        check.same("wouldStop at the end of soaking", x.wouldStop(0, 11), true);
        x.pass(1);
        plan(x, 3, 1, 1, 0, 4);
        check.same("nobody began", x.down(1), 0);
        event(x, 0, 4, 4, -1, 0);
        x.pass(1);
        check.same("nothing more when it is stopped", x.events(), 3);
        check.same("go()", x.go(), 0);
        plan(x, 2, 1, 1, 0, 4);
        x.pass(1);
        plan(x, 3, 1, 1, 0, 4);
        x.report(0, 10);
        x.go();
        x.pass(1);
        plan(x, 1, 1, 1, 1, -1);
        check.same("it began", x.down(1), 2);
        WaveUpgrade y = Check.cluster(TWO + "member k p b;wave p;soak 0;limit 0;");
        check.same("done", y.start(1), -1);
        y.report(0, 999);
        y.pass(1);
        plan(y, 4, -1, -1, -1, -1);
        check.same("no stop of a plan that is done", y.events(), 2);
        check.same("wouldStop of a plan that is done", y.wouldStop(0, 999), false);
    }

    private static void soakingTime() {
        check.sentence("(c) If it is soaking, and the clock is not less than the minute at which that ends, the next wave is taken,"
                + " rolling;");
        for (int soak : new int[] {0, 1, 2, 98, 99}) {
            WaveUpgrade x = Check.cluster(TWO + "member k p a;member l q a;wave p;wave q;takes 2;soak " + soak + ";");
            x.start(1);
            x.pass(3);
            plan(x, 2, 1, 1, 0, 3 + soak);
            event(x, 0, 3, 3, -1, 0);
            int next = 3 + Math.max(1, soak);
            if (soak > 1) {
                x.pass(soak - 1);
                plan(x, 2, 1, 1, 0, 3 + soak);
            }
            x.pass(1);
            check.same("the clock", x.setting(11), next);
            plan(x, 1, 1, 1, 1, -1);
            check.same("the next wave begins at once", x.down(1), 2);
            event(x, 0, next, 0, 1, 1);
            x.pass(2);
            plan(x, 2, 1, 1, 1, next + 2 + soak);
            x.pass(Math.max(1, soak));
            plan(x, 4, -1, -1, -1, -1);
            event(x, 0, next + 2 + Math.max(1, soak), 6, -1, 1);
        }
    }

    private static void nextWave() {
        check.sentence("the next wave is taken, rolling; behind the last one wave 0 with the next step (1 more or 1 less);");
        WaveUpgrade x = Check.cluster("version a 1 1;version b 1 1;version c 1 1;talks a b;talks b c;" + each("place #;", 0, 5)
                + each("wave #;", 0, 5) + "member m c a;takes 1;soak 0;");
        x.start(2);
        int[] waves = {0, 1, 2, 2, 3, 4, 0, 1, 2, 2, 3, 4};
        int[] states = {2, 2, 1, 2, 2, 2, 2, 2, 1, 2, 2, 2};
        for (int k = 0; k < waves.length; k++) {
            x.pass(1);
            plan(x, states[k], 2, k < 6 ? 1 : 2, waves[k]);
        }
        x.pass(1);
        plan(x, 4, -1, -1, -1, -1);
        WaveUpgrade y = Check.cluster("version a 1 1;version b 1 1;talks a b;place p;member m p a;wave p;takes 1;soak 0;");
        y.start(1);
        y.pass(2);
        plan(y, 2, 1, 1, 0, 2);
        y.pass(1);
        plan(y, 4, -1, -1, -1, -1);
    }

    private static void beginning() {
        check.sentence("(d) If it is rolling, the planned members of the wave, by number, that are not held back, up and not ready for"
                + " the step begin to change to it if there is no reason against it.");
        WaveUpgrade x = Check.cluster(TWO + "member i r a;member j p a held;member k q a;member l p b;member m p a;member n q a;"
                + "member o p a;wave q p;down 2;takes 4;");
        x.change(3, 0);
        x.start(1);
        check.same("started", x.events(), 2);
        x.pass(1);
        check.same("place p: one was down already", x.down(0), 8 + 16);
        check.same("place q: two", x.down(1), 4 + 32);
        check.same("place r: none", x.down(2), 0);
        event(x, 2, 1, 0, 2, 1);
        event(x, 1, 1, 0, 4, 1);
        event(x, 0, 1, 0, 5, 1);
        x.pass(2);
        check.same("no more", x.events(), 5);
        x.pass(1);
        event(x, 1, 4, 1, 3, 0);
        event(x, 0, 4, 0, 3, 1);
        check.same("the lowest one is the next one", x.down(0), 8 + 16);
        x.pass(1);
        event(x, 0, 5, 0, 6, 1);
        check.same("not two changes of one at once", x.down(0), 8 + 64);
        WaveUpgrade y = Check.cluster("version a 1 1;version b 1 1;place p;place q;place r;member k p a;member l q a;member m r a;"
                + "link k m;wave p q;");
        y.start(1);
        y.pass(1);
        check.same("one with a reason against it does not keep others", y.down(0) + y.down(1), 2);
        check.same("blocked()", y.blocked(), 1);
    }

    private static void soaksAtOnce() {
        check.sentence("(e) If it is rolling, and the wave is complete, it is soaking, up to the clock plus the soaking time.");
        for (int soak : new int[] {0, 99}) {
            WaveUpgrade x = Check.cluster(TWO + "member k p b;member l q a;wave p;wave q;soak " + soak + ";");
            x.start(1);
            check.same("not at its start", x.plan(0), 1);
            x.pass(1);
            plan(x, 2, 1, 1, 0, 1 + soak);
            event(x, 0, 1, 3, -1, 0);
            x.hold(0, true);
            x.pass(1);
            plan(x, soak == 0 ? 1 : 2, 1, 1, soak == 0 ? 1 : 0, soak == 0 ? -1 : 100);
        }
        WaveUpgrade y = Check.cluster(TWO + "member k p a held;member l q a;wave p;wave q;soak 5;");
        y.start(1);
        y.pass(1);
        plan(y, 2, 1, 1, 0, 6);
        y.hold(0, false);
        y.pass(4);
        plan(y, 2, 1, 1, 0, 6);
        check.same("freed while it soaks: nothing begins", y.down(0), 0);
        y.pass(1);
        plan(y, 1, 1, 1, 1, -1);
        WaveUpgrade z = Check.cluster(TWO + "member k p a;member l q a;wave p;wave q;soak 5;");
        z.start(1);
        z.stop();
        z.change(0, 1);
        z.pass(5);
        plan(z, 3, 1, 1, 0, -1);
        check.same("no wave soaks when it is stopped", z.event(0, 1), 1);
    }

    // ---- the calls

    private static void numbersOfPlan() {
        check.sentence("0 its state, 1 its target, 2 its step, 3 its wave, 4 the minute at which soaking ends (1 to 3: NONE if there is"
                + " no plan, or it is done; 4: NONE if it is not soaking, nor was when it was stopped)");
        plan(new WaveUpgrade(), 0, -1, -1, -1, -1);
        WaveUpgrade x = Check.cluster(eight() + "member k p a;member l q a;takes 2;soak 3;");
        plan(x, 0, -1, -1, -1, -1);
        x.start(2);
        plan(x, 1, 2, 1, 0, -1);
        x.stop();
        plan(x, 3, 2, 1, 0, -1);
        x.go();
        plan(x, 1, 2, 1, 0, -1);
        x.pass(3);
        plan(x, 2, 2, 1, 0, 6);
        x.stop();
        plan(x, 3, 2, 1, 0, 6);
        x.go();
        plan(x, 2, 2, 1, 0, 6);
        x.pass(3);
        plan(x, 1, 2, 1, 1, -1);
        x.stop();
        plan(x, 3, 2, 1, 1, -1);
        x.go();
        x.pass(5);
        plan(x, 1, 2, 2, 0, -1);
        x.pass(10);
        plan(x, 4, -1, -1, -1, -1);
        check.noArgument("plan(-1)", () -> x.plan(-1));
        check.noArgument("plan(5)", () -> x.plan(5));
        check.noArgument("plan(-1) of a new object", () -> new WaveUpgrade().plan(-1));
        check.noArgument("plan(5) of a new object", () -> new WaveUpgrade().plan(5));
    }

    private static void stopAndGo() {
        check.sentence("Lets a plan that is stopped go on, rolling or soaking as it was.");
        WaveUpgrade x = Check.cluster(TWO + "member k p a;member l q a;wave p;wave q;takes 2;soak 3;");
        check.noState("stop() of none", () -> x.stop());
        check.noState("go() of none", () -> x.go());
        x.start(1);
        check.noState("go() when rolling", () -> x.go());
        check.same("stop() when rolling", x.stop(), 0);
        event(x, 0, 0, 4, -1, 0);
        check.noState("stop() when stopped", () -> x.stop());
        x.pass(7);
        check.same("nothing began", x.events(), 2);
        check.same("go()", x.go(), 0);
        event(x, 0, 7, 5, -1, 0);
        check.noState("go() when it goes on", () -> x.go());
        x.pass(3);
        plan(x, 2, 1, 1, 0, 13);
        check.noState("go() when soaking", () -> x.go());
        check.same("stop() when soaking", x.stop(), 0);
        x.pass(2);
        x.go();
        plan(x, 2, 1, 1, 0, 13);
        x.pass(1);
        plan(x, 1, 1, 1, 1, -1);
        x.pass(2);
        plan(x, 2, 1, 1, 1, 18);
        check.same("stop() in wave 1", x.stop(), 1);
        event(x, 0, 15, 4, -1, 1);
        x.pass(30);
        plan(x, 3, 1, 1, 1, 18);
        check.same("go() in wave 1", x.go(), 1);
        event(x, 0, 45, 5, -1, 1);
        plan(x, 2, 1, 1, 1, 18);
        x.pass(1);
        plan(x, 4, -1, -1, -1, -1);
        check.noState("stop() when done", () -> x.stop());
        check.noState("go() when done", () -> x.go());
    }

    private static void startInPlace() {
        check.sentence("Starts a plan, in place of one that is stopped or done.");
        WaveUpgrade x = Check.cluster(TWO + "member k p a;member l q a;wave p;wave q;takes 2;soak 3;");
        check.same("of none", x.start(1), 1);
        check.noState("of one that rolls", () -> x.start(1));
        x.pass(6);
        plan(x, 1, 1, 1, 1, -1);
        check.noState("of one that rolls", () -> x.start(0));
        x.pass(2);
        plan(x, 2, 1, 1, 1, 11);
        check.noState("of one that soaks", () -> x.start(0));
        x.stop();
        check.same("of one that is stopped", x.start(0), 0);
        plan(x, 1, 0, 0, 0, -1);
        x.stop();
        check.same("done at once, of one that is stopped", Check.script(x, "hold k;hold l;start b;"), 3);
        plan(x, 4, -1, -1, -1, -1);
        check.same("of one that is done", x.start(0), -1);
        check.sentence("Returns the first step; NONE if it is done at once.");
        x.hold(0, false);
        check.same("of one that is done", x.start(0), 0);
        check.noIndex("of no version", () -> x.start(2));
        check.sentence("Throws `IllegalStateException` if there are no waves, or the plan is rolling or soaking");
        check.noState("without waves", () -> Check.cluster(TWO + "member k p a;").start(0));
        check.noIndex("without waves, of no version", () -> Check.cluster(TWO + "member k p a;").start(2));
        check.noIndex("of a new object", () -> new WaveUpgrade().start(0));
    }

    private static void laggingAndBlocked() {
        check.sentence("Returns the members of the present wave that are not ready for the step (those that are held back, too, if they"
                + " are down or have no such version), as a set; 0 if the plan is none or done.");
        check.same("of a new object", new WaveUpgrade().lagging(), 0);
        String text = TWO + "member k p a;member l p b held;member m p a held;member n q a;member o p a;wave p;wave q;takes 2;soak 1;";
        WaveUpgrade x = Check.cluster(text);
        check.same("of no plan", x.lagging(), 0);
        check.same("blocked of no plan", x.blocked(), 0);
        x.start(1);
        check.same("at the start", x.lagging(), 1 + 4 + 16);
        check.sentence("Returns those of these that are up, and that may not begin to change to the step, as a set.");
        check.same("held back", x.blocked(), 4);
        x.pass(1);
        check.same("one down", x.lagging(), 1 + 4 + 16);
        check.same("held back, or the place is full", x.blocked(), 4 + 16);
        x.hold(0, true);
        check.same("held back and down", x.lagging(), 1 + 4 + 16);
        check.same("held back and down", x.blocked(), 4 + 16);
        x.pass(2);
        check.same("held back and up", x.lagging(), 4 + 16);
        check.same("held back, the other one is down", x.blocked(), 4);
        x.pass(2);
        check.same("soaking", x.lagging(), 4);
        check.same("blocked when soaking", x.blocked(), 4);
        x.stop();
        check.same("stopped", x.lagging(), 4);
        x.go();
        x.pass(1);
        check.same("the next wave", x.lagging(), 8);
        check.same("blocked in the next wave", x.blocked(), 0);
        x.pass(9);
        plan(x, 4);
        check.same("done", x.lagging(), 0);
        check.same("blocked when done", x.blocked(), 0);
        WaveUpgrade y = Check.cluster("version a 1 1;version b 1 1;version c 2 2;talks a b;talks b c;place p;place q;member k p a;"
                + "member l q a;wave p q;takes 1;soak 0;");
        y.start(2);
        check.same("the step is not the target", y.blocked(), 0);
        y.pass(3);
        plan(y, 1, 2, 2, 0, -1);
        check.same("the step is the target", y.blocked(), 3);
    }

    private static void inWave() {
        check.sentence("Returns the members of a wave, as a set.");
        WaveUpgrade x = Check.cluster("version a 1 1;" + each("place #;", 0, 5) + each("member # a a;", 0, 4) + each("wave #;", 0, 5)
                + each("member # c a;", 4, 8) + each("member # e a held;", 8, 12));
        int[] due = {15, 0, 240, 0, 3840};
        for (int wave = 0; wave < 5; wave++) {
            check.same("inWave(" + wave + ")", x.inWave(wave), due[wave]);
        }
        check.noIndex("inWave(5)", () -> x.inWave(5));
        check.noIndex("inWave(-1)", () -> x.inWave(-1));
        check.noIndex("inWave(0) without waves", () -> Check.cluster("place p;").inWave(0));
    }

    private static void share() {
        check.sentence("Returns the planned members that are up with a version (as a float), divided by all planned members (as a"
                + " float); 0.0f if there are none.");
        check.same("without members", Check.cluster(TWO + "wave p;").share(0), 0.0f);
        check.same("without waves", Check.cluster(TWO + "member k p a;").share(0), 0.0f);
        check.same("none of them planned", Check.cluster(TWO + "member k p a;wave q;").share(0), 0.0f);
        check.same("one of one", Check.cluster(TWO + "member k p a;wave p;").share(0), 1.0f);
        check.same("none of one", Check.cluster(TWO + "member k p a;wave p;").share(1), 0.0f);
        WaveUpgrade x = Check.cluster(TWO + "member i p a;member j p a held;member k q a;member l q b;member m q b;member n q b;"
                + "member o r b;wave p;wave q;");
        check.same("three of six", x.share(0), 0.5f);
        x.change(0, 1);
        check.same("two of six", x.share(0), (double) (2f / 6f));
        check.same("one down is with none", x.share(1), 0.5f);
        x.pass(5);
        check.same("four of six", x.share(1), (double) (4f / 6f));
        x.change(6, 0);
        x.pass(5);
        check.same("those that are not planned do not count", x.share(0), (double) (2f / 6f));
        check.noIndex("share(2)", () -> x.share(2));
        check.noIndex("share(-1)", () -> x.share(-1));
        check.noIndex("share(0) of a new object", () -> new WaveUpgrade().share(0));
        WaveUpgrade y = Check.cluster("version a 1 1;version b 1 1;talks a b;place p;wave p;" + each("member # p a;", 0, 11)
                + "member l p b;");
        check.same("one of twelve", y.share(1), (double) (1f / 12f));
        check.same("eleven of twelve", y.share(0), (double) (11f / 12f));
    }

    private static void meanMeasure() {
        check.sentence("Returns the mean of the measures that counts in section 4 (b), as a double: the sum, divided by the number, both"
                + " converted; 0.0 if there are none of these, or the plan is none or done.");
        check.same("of a new object", new WaveUpgrade().meanMeasure(), 0.0);
        WaveUpgrade x = Check.cluster(TWO + "member k p b;member l p b;member m p b;member n q a;wave p;wave q;limit 999;soak 0;takes 1;");
        x.report(0, 1);
        x.report(1, 1);
        x.report(3, 999);
        check.same("of no plan", x.meanMeasure(), 0.0);
        x.start(1);
        check.same("two thirds", x.meanMeasure(), 2.0 / 3.0);
        x.report(2, 999);
        check.same("of three", x.meanMeasure(), 1001.0 / 3.0);
        x.stop();
        check.same("when stopped", x.meanMeasure(), 1001.0 / 3.0);
        x.go();
        x.pass(1);
        check.same("when soaking", x.meanMeasure(), 1001.0 / 3.0);
        x.pass(1);
        check.same("one is down", x.meanMeasure(), 1001.0 / 3.0);
        x.pass(1);
        check.same("of four", x.meanMeasure(), 1001.0 / 4.0);
        x.pass(1);
        plan(x, 4);
        check.same("when done", x.meanMeasure(), 0.0);
        WaveUpgrade y = Check.cluster("version a 1 1;version b 1 1;talks a b;place p;place q;wave p q;" + each("member # p b;", 0, 11)
                + "member l q a;limit 999;");
        for (int member = 0; member < 11; member++) {
            y.report(member, 999);
        }
        y.start(1);
        check.same("of eleven", y.meanMeasure(), 999.0);
    }

    private static void pass() {
        check.sentence("Lets minutes pass.");
        WaveUpgrade x = new WaveUpgrade();
        check.same("pass(0)", x.pass(0), 0);
        check.same("pass(1)", x.pass(1), 1);
        check.same("pass(999)", x.pass(999), 1000);
        check.noArgument("pass(1000)", () -> x.pass(1000));
        check.noArgument("pass(-1)", () -> x.pass(-1));
        check.noArgument("pass(MAX_VALUE)", () -> x.pass(Integer.MAX_VALUE));
        check.noArgument("pass(MIN_VALUE)", () -> x.pass(Integer.MIN_VALUE));
        check.sentence("or the clock would be greater than 20000");
        for (int k = 2; k <= 20; k++) {
            check.same("pass to " + (k * 999 + 1), x.pass(999), k * 999 + 1);
        }
        check.noArgument("pass(20) at 19981", () -> x.pass(20));
        check.same("pass(18) at 19981", x.pass(18), 19999);
        check.noArgument("pass(2) at 19999", () -> x.pass(2));
        check.noArgument("pass(999) at 19999", () -> x.pass(999));
        check.same("pass(1) at 19999", x.pass(1), 20000);
        check.noArgument("pass(1) at 20000", () -> x.pass(1));
        check.same("pass(0) at 20000", x.pass(0), 20000);
        check.same("the clock", x.setting(11), 20000);
    }
}
