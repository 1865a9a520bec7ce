import java.util.ArrayList;
import java.util.List;

/**
 * Calls that are refused, in many states: the exception that is due, and that all that can be asked, also of
 * what undo(), restore() and the buffer hold, is the same ahead of the call and behind it.
 */
final class RefusedTest {
    private static final Check check = new Check("RefusedTest");
    private static final Class<IllegalStateException> STATE = IllegalStateException.class;
    private static final Class<IllegalArgumentException> ARGUMENT = IllegalArgumentException.class;
    private static final Class<IndexOutOfBoundsException> INDEX = IndexOutOfBoundsException.class;
    private static final int LEAST = Integer.MIN_VALUE;
    private static final int MOST = Integer.MAX_VALUE;
    private static final String VERSIONS = "version old 1 2;version mid 1 3;version new 2 4;talks old mid;talks mid new;";
    /** Members 0 and 1 are in wave 0, 2 and 3 in wave 1, 4 in none; 3 is held back; 0 and 2 are linked. */
    private static final String CLUSTER = VERSIONS + "place here;place there;place away;"
            + "member ma here old;member mb here old;member mc there old;member md there old held;member me away old;"
            + "link ma mc;wave here;wave there;";

    private final String name;
    private final Whole.Maker maker;
    private final List<String> everything;

    private RefusedTest(String name, Whole.Maker maker) {
        this.name = name;
        this.maker = maker;
        this.everything = Whole.everything(maker);
    }

    public static void main(String[] args) {
        fresh();
        withoutPlan();
        withPlan();
        atTheEnds();
        texts();
        whatWillBe();
        check.end();
    }

    // ---- states

    /** All that is hidden is there: more calls to undo and more events than are kept, a saved cluster, an error. */
    private static WaveUpgrade rich(String text) {
        WaveUpgrade x = Check.cluster(text);
        x.pass(3);
        x.hold(4, true);
        x.report(0, 8);
        x.save();
        for (int k = 0; k < 32; k++) {
            x.hold(4, k % 2 == 1);
        }
        x.hold(4, false);
        x.report(1, 7);
        x.writeReport();
        x.report(1, 9);
        Check.errorOf(x, "place p;place p;", false);
        Check.put(x, "pass 2;hold me;");
        return x;
    }

    private static WaveUpgrade started(int minutes) {
        WaveUpgrade x = rich(CLUSTER);
        x.start(1);
        x.pass(minutes);
        return x;
    }

    private static WaveUpgrade stopped(int minutes) {
        WaveUpgrade x = started(minutes);
        x.stop();
        return x;
    }

    private static WaveUpgrade committed(String text) {
        WaveUpgrade x = rich(text);
        x.commit(2);
        return x;
    }

    private static WaveUpgrade late(int clock) {
        WaveUpgrade x = rich(CLUSTER);
        x.truncate(0);
        Check.script(x, "repeat 20 (pass 999;);");
        x.pass(clock - x.setting(11));
        Check.put(x, "pass 1;hold me;");
        return x;
    }

    private static WaveUpgrade fed(int length) {
        WaveUpgrade x = rich(CLUSTER);
        x.truncate(0);
        Check.put(x, "soak 3;" + " ".repeat(length - 7));
        return x;
    }

    // ---- what is refused

    private void refused(String what, Class<? extends RuntimeException> due, Whole.Call... calls) {
        for (int i = 0; i < calls.length; i++) {
            Whole.Call call = calls[i];
            check.fails(name + ": " + what + ", number " + i, due, () -> call.on(maker.make()));
        }
        List<String> behind = Whole.everything(() -> {
            WaveUpgrade x = maker.make();
            for (Whole.Call call : calls) {
                Whole.outcome(call, x);
            }
            return x;
        });
        check.sameText(name + ": \"A call that throws an exception changes nothing\", " + what,
                Whole.difference(behind, everything), "");
    }

    interface OneNumber {
        double on(WaveUpgrade x, int n);
    }

    private void refusedFor(String what, Class<? extends RuntimeException> due, int[] numbers, OneNumber call) {
        Whole.Call[] calls = new Whole.Call[numbers.length];
        for (int i = 0; i < numbers.length; i++) {
            int n = numbers[i];
            calls[i] = x -> call.on(x, n);
        }
        refused(what, due, calls);
    }

    /** Numbers of nothing, if so many exist; those from 31 on would be bits of a mask again if shifted. */
    private static int[] outside(int count) {
        return new int[] {-1, count, count + 1, 31, 32, 33, 64, -32, LEAST, MOST};
    }

    private static int[] beyond(int least, int most) {
        return new int[] {least - 1, most + 1, LEAST, MOST};
    }

    /** The wrong numbers, which are refused in each state. */
    private void wrongNumbers() {
        WaveUpgrade sizes = maker.make();
        int versions = sizes.setting(0);
        int members = sizes.setting(2);
        check.sentence("The parameters version, other, place, member and wave are numbers of existing ones;");
        wrongVersions(versions, outside(versions));
        wrongMembers(members, versions, outside(members));
        refusedFor("down", INDEX, outside(sizes.setting(1)), (x, n) -> x.down(n));
        refusedFor("inWave", INDEX, outside(sizes.setting(3)), (x, n) -> x.inWave(n));
        check.sentence("Throws `IllegalArgumentException` if what is out of range");
        refusedFor("setting", ARGUMENT, outside(12), (x, n) -> x.setting(n));
        refusedFor("plan", ARGUMENT, outside(5), (x, n) -> x.plan(n));
        check.sentence("@throws IllegalArgumentException if format is out of range.");
        refusedFor("readers", ARGUMENT, beyond(1, 9), (x, n) -> x.readers(n));
        refusedFor("whyNotCommit", ARGUMENT, beyond(1, 9), (x, n) -> x.whyNotCommit(n));
        refusedFor("commit", ARGUMENT, beyond(1, 9), (x, n) -> x.commit(n));
        check.sentence("Throws `IllegalArgumentException` if limit is out of range");
        refusedFor("minutesToEnd", ARGUMENT, beyond(0, 2000), (x, n) -> x.minutesToEnd(n));
        check.sentence("@throws IllegalArgumentException if minutes is out of range.");
        refusedFor("changesIn", ARGUMENT, beyond(0, 2000), (x, n) -> x.changesIn(n));
        check.sentence("Throws `IllegalArgumentException` if minutes is out of range, or the clock would be greater than 20000");
        refusedFor("pass", ARGUMENT, beyond(0, 999), (x, n) -> x.pass(n));
        check.sentence("Throws `IndexOutOfBoundsException` if there is no such event that is kept");
        int[] noEvents = {-1, sizes.events(), 30, 31, LEAST, MOST};
        refusedFor("event", INDEX, noEvents, (x, n) -> x.event(n, 0));
        check.sentence("If several exceptions apply to a call, the one that is listed first is thrown.");
        refusedFor("event of no number", INDEX, noEvents, (x, n) -> x.event(n, 4));
        if (sizes.events() > 0) {
            check.sentence("Throws `IllegalArgumentException` if what is out of range");
            refusedFor("event of one that is", ARGUMENT, outside(4), (x, n) -> x.event(0, n));
        }
    }

    private void wrongVersions(int versions, int[] wrong) {
        refusedFor("mayTalk, first", INDEX, wrong, (x, n) -> x.mayTalk(n, 0) ? 1 : 0);
        refusedFor("mayTalk, second", INDEX, wrong, (x, n) -> x.mayTalk(0, n) ? 1 : 0);
        refusedFor("mayTalk, both", INDEX, wrong, (x, n) -> x.mayTalk(n, n) ? 1 : 0);
        refusedFor("talkers", INDEX, wrong, (x, n) -> x.talkers(n));
        refusedFor("wayOf, first", INDEX, wrong, (x, n) -> x.wayOf(n, 0));
        refusedFor("wayOf, second", INDEX, wrong, (x, n) -> x.wayOf(0, n));
        refusedFor("wayOf, both", INDEX, wrong, (x, n) -> x.wayOf(n, n));
        refusedFor("nextOnWay, first", INDEX, wrong, (x, n) -> x.nextOnWay(n, 0));
        refusedFor("nextOnWay, second", INDEX, wrong, (x, n) -> x.nextOnWay(0, n));
        refusedFor("nextOnWay, both", INDEX, wrong, (x, n) -> x.nextOnWay(n, n));
        refusedFor("with", INDEX, wrong, (x, n) -> x.with(n));
        refusedFor("share", INDEX, wrong, (x, n) -> x.share(n));
        refusedFor("start", INDEX, wrong, (x, n) -> x.start(n));
        refusedFor("reason, second", INDEX, wrong, (x, n) -> x.reason(0, n));
        refusedFor("against, second", INDEX, wrong, (x, n) -> x.against(0, n));
        refusedFor("change, second", INDEX, wrong, (x, n) -> x.change(0, n));
    }

    private void wrongMembers(int members, int versions, int[] wrong) {
        refusedFor("member", INDEX, wrong, (x, n) -> x.member(n, 0));
        refusedFor("partners", INDEX, wrong, (x, n) -> x.partners(n));
        refusedFor("reason", INDEX, wrong, (x, n) -> x.reason(n, 0));
        refusedFor("reason, both", INDEX, wrong, (x, n) -> x.reason(n, n));
        refusedFor("open", INDEX, wrong, (x, n) -> x.open(n));
        refusedFor("against", INDEX, wrong, (x, n) -> x.against(n, 0));
        refusedFor("minutesIfFree", INDEX, wrong, (x, n) -> x.minutesIfFree(n));
        refusedFor("wouldStop", INDEX, wrong, (x, n) -> x.wouldStop(n, 0) ? 1 : 0);
        refusedFor("hold", INDEX, wrong, (x, n) -> x.hold(n, true));
        refusedFor("hold no more", INDEX, wrong, (x, n) -> x.hold(n, false));
        refusedFor("report", INDEX, wrong, (x, n) -> x.report(n, 0));
        refusedFor("change", INDEX, wrong, (x, n) -> x.change(n, 0));
        check.sentence("If several exceptions apply to a call, the one that is listed first is thrown.");
        refusedFor("member of no number", INDEX, wrong, (x, n) -> x.member(n, 7));
        refusedFor("wouldStop of no measure", INDEX, wrong, (x, n) -> x.wouldStop(n, 1000) ? 1 : 0);
        refusedFor("report of no measure", INDEX, wrong, (x, n) -> x.report(n, -1));
        for (int member = 0; member < members; member += 4) {
            int m = member;
            check.sentence("Throws `IllegalArgumentException` if what is out of range");
            refusedFor("member " + m, ARGUMENT, outside(7), (x, n) -> x.member(m, n));
            check.sentence("Throws `IllegalArgumentException` if measure is out of range");
            refusedFor("wouldStop " + m, ARGUMENT, beyond(0, 999), (x, n) -> x.wouldStop(m, n) ? 1 : 0);
            refusedFor("report " + m, ARGUMENT, beyond(0, 999), (x, n) -> x.report(m, n));
        }
    }

    private static final Whole.Call STOP = x -> x.stop();
    private static final Whole.Call GO = x -> x.go();
    private static final String NOT_STARTED = "Throws `IllegalStateException` if there are no waves, or the plan is rolling or soaking";
    private static final String NOT_STOPPED = "Throws `IllegalStateException` if it is neither rolling nor soaking";
    private static final String NOT_GONE = "Throws `IllegalStateException` if it is not stopped";
    private static final String REASON = "Throws `IllegalStateException` if there is a reason against it";

    private void notStarted() {
        check.sentence(NOT_STARTED);
        refused("start", STATE, x -> x.start(0), x -> x.start(x.setting(0) - 1));
    }

    private void notStopped() {
        check.sentence(NOT_STOPPED);
        refused("stop", STATE, STOP);
    }

    private void notGone() {
        check.sentence(NOT_GONE);
        refused("go", STATE, GO);
    }

    private static void fresh() {
        RefusedTest it = new RefusedTest("a new object", WaveUpgrade::new);
        it.wrongNumbers();
        it.notStopped();
        it.notGone();
        check.sentence("Throws `IllegalStateException` if nothing was saved");
        it.refused("restore", STATE, x -> x.restore());
        check.sentence("Throws `IllegalArgumentException` if n is negative or greater than the present length");
        it.refusedFor("truncate", ARGUMENT, beyond(0, 0), (x, n) -> x.truncate(n));
        check.sentence("Throws `IndexOutOfBoundsException` if there is no such byte, or there was no report");
        it.refusedFor("reportByte", INDEX, new int[] {-1, 0, 1, LEAST, MOST}, (x, n) -> x.reportByte(n));
        check.sentence(REASON);
        it.refused("commit", STATE, x -> x.commit(1));
    }

    private static void withoutPlan() {
        RefusedTest it = new RefusedTest("no plan", () -> rich(CLUSTER));
        it.wrongNumbers();
        it.notStopped();
        it.notGone();
        check.sentence("Throws `IllegalStateException` if it is so already");
        it.refused("hold", STATE, x -> x.hold(3, true), x -> x.hold(0, false), x -> x.hold(4, false));
        check.sentence(REASON);
        it.refused("change", STATE, x -> x.change(3, 1), x -> x.change(0, 0), x -> x.change(0, 2));
        it.refused("commit", STATE, x -> x.commit(1), x -> x.commit(3), x -> x.commit(9));
        check.sentence("Throws `IllegalArgumentException` if n is negative or greater than the present length");
        it.refusedFor("truncate", ARGUMENT, beyond(0, 15), (x, n) -> x.truncate(n));
        check.sentence("Throws `IndexOutOfBoundsException` if there is no such byte, or there was no report");
        int length = it.maker.make().writeReport();
        it.refusedFor("reportByte", INDEX, beyond(0, length - 1), (x, n) -> x.reportByte(n));
        RefusedTest noWaves = new RefusedTest("no waves", () -> rich(CLUSTER.replaceAll("wave \\w+;", "")));
        noWaves.wrongNumbers();
        noWaves.notStarted();
        RefusedTest far = new RefusedTest("the skew", () -> committed(CLUSTER));
        check.sentence(REASON);
        far.refused("change by more than the skew", STATE, x -> x.change(0, 2));
        far.refused("commit of the present format", STATE, x -> x.commit(2), x -> x.commit(1));
        RefusedTest mute = new RefusedTest("those that may not talk", () -> committed("skew 2;" + CLUSTER));
        mute.refused("change to what may not talk with a partner", STATE, x -> x.change(0, 2));
        RefusedTest unsaved = new RefusedTest("nothing saved", () -> Check.cluster(CLUSTER));
        check.sentence("Throws `IllegalStateException` if nothing was saved");
        unsaved.refused("restore", STATE, x -> x.restore());
    }

    private static void withPlan() {
        RefusedTest rolling = new RefusedTest("rolling", () -> started(1));
        rolling.wrongNumbers();
        rolling.notStarted();
        rolling.notGone();
        check.sentence("Throws `IllegalStateException` if it is down");
        rolling.refused("report", STATE, x -> x.report(0, 0), x -> x.report(0, 999));
        check.sentence(REASON);
        rolling.refused("change", STATE, x -> x.change(0, 0), x -> x.change(0, 1), x -> x.change(1, 1));
        RefusedTest soaking = new RefusedTest("soaking", () -> started(11));
        soaking.notStarted();
        soaking.notGone();
        for (int minutes : new int[] {1, 11}) {
            RefusedTest stopped = new RefusedTest("stopped at " + minutes, () -> stopped(minutes));
            stopped.notStopped();
        }
        RefusedTest done = new RefusedTest("done", () -> started(36));
        done.wrongNumbers();
        done.notStopped();
        done.notGone();
    }

    private static void atTheEnds() {
        check.sentence("Throws `IllegalArgumentException` if minutes is out of range, or the clock would be greater than 20000");
        new RefusedTest("clock 20000", () -> late(20000)).refused("pass", ARGUMENT, x -> x.pass(1), x -> x.pass(999));
        new RefusedTest("clock 19999", () -> late(19999)).refused("pass", ARGUMENT, x -> x.pass(2), x -> x.pass(999));
        check.sentence("Throws `IllegalStateException` if it would exceed 900");
        for (int length : new int[] {881, 890, 900}) {
            RefusedTest full = new RefusedTest(length + " bytes", () -> fed(length));
            full.refused("feed", STATE, x -> x.feed(0, 0, 0, 0, 0), x -> x.feed(0x706c6163, 0x6520613b, 0, 0, 0));
            check.same("its length", full.maker.make().truncate(length), length);
        }
    }

    // ---- texts with an error

    private static void texts() {
        check.sentence("only the buffer, errorCode() and errorPosition() change then");
        String[] clusters = {"1 place p;^;", "2 soak ^100;", "3 place p;place ^p;", "4 soak 1;^soak 2;", "5 format 9;" + VERSIONS
                + "place p;member m p ^old;", "6 place a;place b;place c;place d;place e;^place f;", "1 place p^"};
        String[] scripts = {"1 pass 1;^;", "2 pass 1;repeat ^21 ();", "3 pass 1;hold ^old;", "3 pass 1;start ^ma;",
            "4 repeat 1 (repeat 1 (^repeat 1 ()));", "6 " + "pass 1;".repeat(30) + "^pass 1;", "1 pass 1;hold^"};
        List<RefusedTest> states = new ArrayList<>();
        states.add(new RefusedTest("a new object", WaveUpgrade::new));
        states.add(new RefusedTest("no plan", () -> rich(CLUSTER)));
        states.add(new RefusedTest("rolling", () -> started(1)));
        for (RefusedTest state : states) {
            List<String> before = Whole.allButText(state.maker);
            for (String each : clusters) {
                state.refusedText(each, false, before);
            }
            for (String each : scripts) {
                state.refusedText(each, true, before);
            }
        }
    }

    /** The code that is due stands ahead of the text, and '^' ahead of the token. */
    private void refusedText(String codeAndText, boolean isScript, List<String> before) {
        String marked = codeAndText.substring(2);
        String text = marked.replace("^", "");
        WaveUpgrade wrong = maker.make();
        wrong.truncate(0);
        String due = codeAndText.charAt(0) + "@" + marked.indexOf('^');
        check.sameText(name + ": <" + text + ">", Check.errorOf(wrong, text, isScript), due);
        check.same(name + ": the buffer behind <" + text + ">", wrong.feed(0, 0, 0, 0, 0), 20);
        List<String> behind = Whole.allButText(() -> {
            WaveUpgrade x = maker.make();
            x.truncate(0);
            Check.errorOf(x, text, isScript);
            return x;
        });
        check.sameText(name + ": behind <" + text + ">", Whole.difference(behind, before), "");
    }

    // ---- questions that try out what will be

    private static void whatWillBe() {
        check.sentence("what will be if only minutes pass (also beyond the clock 20000); nothing changes.");
        List<RefusedTest> states = new ArrayList<>();
        states.add(new RefusedTest("no plan", () -> rich(CLUSTER)));
        states.add(new RefusedTest("rolling", () -> started(1)));
        states.add(new RefusedTest("soaking", () -> started(11)));
        states.add(new RefusedTest("stopped", () -> stopped(11)));
        states.add(new RefusedTest("clock 20000", () -> late(20000)));
        for (RefusedTest state : states) {
            List<String> behind = Whole.everything(() -> {
                WaveUpgrade x = state.maker.make();
                x.minutesToEnd(2000);
                x.changesIn(2000);
                x.bestToFree();
                for (int m = 0; m < 5; m++) {
                    x.minutesIfFree(m);
                    x.wouldStop(m, 0);
                    x.wouldStop(m, 999);
                }
                return x;
            });
            check.sameText(state.name + ": behind what will be", Whole.difference(behind, state.everything), "");
        }
        check.sentence("NONE, and nothing changes, if there is none");
        RefusedTest nothing = new RefusedTest("nothing to undo", () -> {
            WaveUpgrade x = rich(CLUSTER);
            x.restore();
            return x;
        });
        List<String> behind = Whole.everything(() -> {
            WaveUpgrade x = nothing.maker.make();
            check.same("undo of nothing", x.undo(), -1);
            return x;
        });
        check.sameText("behind undo of nothing", Whole.difference(behind, nothing.everything), "");
    }
}
