/** The promises one by one (4 to 7 have tests of their own): ordinary inputs, edges and wrong inputs. */
final class PromiseTest {
    private static final Check check = new Check("PromiseTest");
    private static final String VERSIONS = "version old 1 2;version mid 1 3;version new 2 4;talks old mid;talks mid new;";
    private static final String PLACES = "place here;place there;place away;";
    /** Members 0 and 1 are in wave 0, 2 and 3 in wave 1, 4 in none; 3 is held back; 0 and 2 are linked. */
    private static final String CLUSTER = VERSIONS + PLACES + "member ma here old;member mb here old;"
            + "member mc there old;member md there old held;member me away old;link ma mc;wave here;wave there;";

    private static WaveUpgrade cluster() {
        return Check.cluster(CLUSTER);
    }

    public static void main(String[] args) {
        newObject();
        feed();
        truncate();
        setting();
        versions();
        ways();
        member();
        sets();
        reasons();
        againstAndMixed();
        plan();
        planDownwards();
        emptyWaves();
        measures();
        share();
        format();
        wayBack();
        minutesToEnd();
        freeing();
        changesIn();
        wouldStop();
        events();
        pass();
        start();
        stopAndGo();
        hold();
        report();
        change();
        commit();
        writeReport();
        undo();
        saved();
        check.end();
    }

    /** Promise 1. */
    private static void newObject() {
        WaveUpgrade x = new WaveUpgrade();
        int[] due = {0, 0, 0, 0, 0, 1, 1, 1, 5, 10, 50, 0};
        for (int what = 0; what < due.length; what++) {
            check.same("setting(" + what + ") of a new object", x.setting(what), due[what]);
        }
        check.same("errorCode of a new object", x.errorCode(), 0);
        check.same("errorPosition of a new object", x.errorPosition(), -1);
        check.same("plan of a new object", x.plan(0), 0);
        check.same("events of a new object", x.events(), 0);
        check.same("undo of a new object", x.undo(), -1);
        check.same("bestToFree of a new object", x.bestToFree(), -1);
        check.same("NONE", WaveUpgrade.NONE, -1);
        check.noIndex("reportByte of a new object", () -> x.reportByte(0));
        check.noState("restore of a new object", () -> x.restore());
        check.noArgument("truncate(1) of a new object", () -> x.truncate(1));
        check.same("readText of an empty buffer", x.readText(), 0);
    }

    /** Promise 2. */
    private static void feed() {
        WaveUpgrade x = new WaveUpgrade();
        for (int k = 1; k <= 45; k++) {
            check.same("feed number " + k, x.feed(0x20202020, 0x0a0a0a0a, 0x20202020, 0x20202020, 0x20202020), 20 * k);
        }
        check.noState("feed beyond 900", () -> x.feed(0, 0, 0, 0, 0));
        check.same("truncate to 881", x.truncate(881), 881);
        check.noState("feed beyond 900 by one", () -> x.feed(0, 0, 0, 0, 0));
        check.same("truncate to 880", x.truncate(880), 880);
        check.same("feed up to 900", x.feed(0x736f616b, 0x20373b77, 0x61766520, 0x80ff0000, 0), 900);
        check.noArgument("readText", () -> x.readText());
        check.same("errorPosition: the byte 0x80", x.errorPosition(), 892);
        check.same("errorCode", x.errorCode(), 1);
    }

    /** Promise 3. */
    private static void truncate() {
        WaveUpgrade x = new WaveUpgrade();
        Check.put(x, "soak 3;soak 4;");
        check.noArgument("truncate(-1)", () -> x.truncate(-1));
        check.noArgument("truncate(15)", () -> x.truncate(15));
        check.same("truncate(14)", x.truncate(14), 14);
        check.same("truncate(7)", x.truncate(7), 7);
        check.same("readText", x.readText(), 0);
        check.same("setting(9)", x.setting(9), 3);
        check.same("truncate(0)", x.truncate(0), 0);
    }

    /** Promise 8. */
    private static void setting() {
        WaveUpgrade x = Check.cluster(CLUSTER + "down 2;takes 3;soak 4;limit 60;");
        x.pass(7);
        int[] due = {3, 3, 5, 2, 1, 1, 1, 2, 3, 4, 60, 7};
        for (int what = 0; what < due.length; what++) {
            check.same("setting(" + what + ")", x.setting(what), due[what]);
        }
        check.noArgument("setting(-1)", () -> x.setting(-1));
        check.noArgument("setting(12)", () -> x.setting(12));
        check.same("setting(5) of a format", Check.cluster("format 4;skew 7;").setting(5), 4);
        check.same("setting(6) of a skew", Check.cluster("format 4;skew 7;").setting(6), 7);
    }

    /** Promises 9 to 11. */
    private static void versions() {
        WaveUpgrade x = cluster();
        check.same("mayTalk(0, 1)", x.mayTalk(0, 1), true);
        check.same("mayTalk(1, 0)", x.mayTalk(1, 0), true);
        check.same("mayTalk(0, 2)", x.mayTalk(0, 2), false);
        check.same("mayTalk(2, 2)", x.mayTalk(2, 2), true);
        check.noIndex("mayTalk(3, 0)", () -> x.mayTalk(3, 0) ? 1 : 0);
        check.noIndex("mayTalk(0, 3)", () -> x.mayTalk(0, 3) ? 1 : 0);
        check.noIndex("mayTalk(-1, 0)", () -> x.mayTalk(-1, 0) ? 1 : 0);
        int[] readers = {0, 3, 7, 6, 4, 0, 0, 0, 0, 0};
        for (int format = 1; format <= 9; format++) {
            check.same("readers(" + format + ")", x.readers(format), readers[format]);
        }
        check.noArgument("readers(0)", () -> x.readers(0));
        check.noArgument("readers(10)", () -> x.readers(10));
        check.same("talkers(0)", x.talkers(0), 3);
        check.same("talkers(1)", x.talkers(1), 7);
        check.same("talkers(2)", x.talkers(2), 6);
        check.noIndex("talkers(3)", () -> x.talkers(3));
        check.noIndex("talkers(-1)", () -> x.talkers(-1));
    }

    /** Promises 12 and 13. */
    private static void ways() {
        WaveUpgrade x = cluster();
        way(x, 0, 0, 0, -1);
        way(x, 0, 1, 1, 1);
        way(x, 0, 2, -1, -1);
        way(x, 2, 0, 2, 1);
        way(x, 2, 2, 0, -1);
        x.commit(2);
        way(x, 0, 2, 2, 1);
        way(x, 2, 0, 2, 1);
        check.noIndex("wayOf(3, 0)", () -> x.wayOf(3, 0));
        check.noIndex("wayOf(0, -1)", () -> x.wayOf(0, -1));
        check.noIndex("nextOnWay(-1, 0)", () -> x.nextOnWay(-1, 0));
        check.noIndex("nextOnWay(0, 3)", () -> x.nextOnWay(0, 3));
        WaveUpgrade y = Check.cluster("skew 3;version a 1 1;version b 1 1;version c 1 1;version d 1 1;version e 2 2;"
                + "talks a c;talks a b;talks d b;talks d c;talks d e;talks a e;");
        way(y, 0, 3, 2, 1);
        way(y, 3, 0, 2, 1);
        way(y, 4, 3, 1, 3);
        way(y, 4, 0, 3, 3);
        way(y, 3, 4, -1, -1);
        way(y, 4, 4, 0, -1);
        way(y, 1, 2, 2, 0);
        way(Check.cluster("version a 1 1;version b 1 1;version c 1 1;talks a c;"), 0, 2, -1, -1);
        way(Check.cluster("skew 0;version a 1 1;version b 1 1;talks a b;"), 0, 1, -1, -1);
        way(Check.cluster("skew 2;version a 1 1;version b 2 2;version c 1 1;talks a b;talks b c;"), 0, 2, -1, -1);
    }

    private static void way(WaveUpgrade x, int from, int to, int changes, int next) {
        check.same("wayOf(" + from + ", " + to + ")", x.wayOf(from, to), changes);
        check.same("nextOnWay(" + from + ", " + to + ")", x.nextOnWay(from, to), next);
    }

    private static void member(WaveUpgrade x, int member, int... due) {
        for (int what = 0; what < due.length; what++) {
            check.same("member(" + member + ", " + what + ")", x.member(member, what), due[what]);
        }
    }

    /** Promise 14. */
    private static void member() {
        WaveUpgrade x = cluster();
        member(x, 0, 0, 0, -1, -1, 0, 0, 0);
        member(x, 3, 1, 0, -1, -1, 0, 1, 1);
        member(x, 4, 2, 0, -1, -1, 0, 0, -1);
        x.report(0, 9);
        x.pass(2);
        x.change(0, 1);
        member(x, 0, 0, 0, 1, 7, 9, 0, 0);
        x.pass(4);
        member(x, 0, 0, 0, 1, 7, 9, 0, 0);
        x.pass(1);
        member(x, 0, 0, 1, -1, -1, 0, 0, 0);
        check.noIndex("member(5, 0)", () -> x.member(5, 0));
        check.noIndex("member(-1, 0)", () -> x.member(-1, 0));
        check.noIndex("member(5, 7)", () -> x.member(5, 7));
        check.noArgument("member(4, 7)", () -> x.member(4, 7));
        check.noArgument("member(0, -1)", () -> x.member(0, -1));
    }

    /** Promises 15 to 18 and 26. */
    private static void sets() {
        WaveUpgrade x = cluster();
        int[] partners = {6, 1, 9, 4, 0};
        for (int member = 0; member < 5; member++) {
            check.same("partners(" + member + ")", x.partners(member), partners[member]);
        }
        check.noIndex("partners(5)", () -> x.partners(5));
        check.noIndex("partners(-1)", () -> x.partners(-1));
        check.same("with(0)", x.with(0), 31);
        check.same("skewNow()", x.skewNow(), 0);
        x.change(2, 1);
        check.same("with(0) without the one that is down", x.with(0), 27);
        check.same("with(1) while it is down", x.with(1), 0);
        check.same("down(0)", x.down(0), 0);
        check.same("down(1)", x.down(1), 4);
        check.same("skewNow() with what comes", x.skewNow(), 1);
        x.pass(5);
        check.same("with(1)", x.with(1), 4);
        check.same("with(2)", x.with(2), 0);
        check.same("down(1) then", x.down(1), 0);
        check.noIndex("with(3)", () -> x.with(3));
        check.noIndex("with(-1)", () -> x.with(-1));
        check.noIndex("down(3)", () -> x.down(3));
        check.noIndex("down(-1)", () -> x.down(-1));
        check.same("inWave(0)", x.inWave(0), 3);
        check.same("inWave(1)", x.inWave(1), 12);
        check.noIndex("inWave(2)", () -> x.inWave(2));
        check.noIndex("inWave(-1)", () -> x.inWave(-1));
        WaveUpgrade y = Check.cluster("version v 1 1;place a;place b;place c;"
                + "wave c a;member k a v;member l b v;member m c v;wave b;");
        check.same("inWave(0) of a wave ahead of its members", y.inWave(0), 5);
        check.same("inWave(1) of a wave behind its members", y.inWave(1), 2);
        check.same("skewNow() without members", new WaveUpgrade().skewNow(), 0);
    }

    /** Promises 19 and 20, with each reason hidden by the lower ones. */
    private static void reasons() {
        WaveUpgrade x = cluster();
        check.same("reason: it has this version", x.reason(0, 0), 3);
        check.same("reason: none", x.reason(0, 1), 0);
        check.same("reason: the format", x.reason(0, 2), 4);
        check.same("reason: held back", x.reason(3, 0), 1);
        check.same("open(0)", x.open(0), 2);
        check.same("open(3)", x.open(3), 0);
        x.change(0, 1);
        check.same("reason: it is down", x.reason(0, 0), 2);
        check.same("reason: down, also for its next version", x.reason(0, 1), 2);
        check.same("reason: another one of the place is down", x.reason(1, 1), 5);
        check.same("reason: of another place", x.reason(2, 1), 0);
        check.same("reason: none is told ahead of 3", x.reason(1, 0), 3);
        check.same("reason: 4 ahead of 5", x.reason(1, 2), 4);
        x.hold(0, true);
        check.same("reason: held back and down", x.reason(0, 1), 1);
        x.commit(2);
        check.same("reason: too far", x.reason(2, 2), 6);
        check.same("reason: 5 ahead of 6", x.reason(1, 2), 5);
        check.same("open(1)", x.open(1), 0);
        check.same("open(2)", x.open(2), 2);
        check.noIndex("reason(5, 0)", () -> x.reason(5, 0));
        check.noIndex("reason(-1, 0)", () -> x.reason(-1, 0));
        check.noIndex("reason(0, 3)", () -> x.reason(0, 3));
        check.noIndex("reason(0, -1)", () -> x.reason(0, -1));
        check.noIndex("open(5)", () -> x.open(5));
        check.noIndex("open(-1)", () -> x.open(-1));
        WaveUpgrade y = Check.cluster("version a 1 1;version b 1 1;skew 2;place p;place q;"
                + "member m p a;member n q a;member o q a;link m n;down 2;");
        check.same("reason: a partner by a link", y.reason(0, 1), 7);
        check.same("reason: a partner of the place", y.reason(2, 1), 7);
        check.same("open of none", y.open(0), 0);
        WaveUpgrade z = Check.cluster("version a 1 1;version b 1 1;place p;place q;"
                + "talks a b;down 2;member m p a;member n p a;member o p a;member k q b;");
        z.change(0, 1);
        check.same("reason: one of two may still go", z.reason(1, 1), 0);
        z.change(1, 1);
        check.same("reason: two of two are down", z.reason(2, 1), 5);
        z.pass(5);
        check.same("reason: they are up again", z.reason(2, 1), 0);
    }

    /** Promises 21 and 22. */
    private static void againstAndMixed() {
        WaveUpgrade x = cluster();
        check.same("against(0, 2)", x.against(0, 2), 6);
        check.same("against(0, 1)", x.against(0, 1), 0);
        check.same("against(3, 2) though held back", x.against(3, 2), 4);
        check.same("against(4, 2) without partners", x.against(4, 2), 0);
        check.same("mixed()", x.mixed(), 0);
        x.change(0, 1);
        check.same("against(2, 2): what comes counts", x.against(2, 2), 8);
        check.same("mixed() with one that is down", x.mixed(), 0);
        x.pass(5);
        check.same("mixed() of two pairs", x.mixed(), 2);
        x.change(2, 1);
        check.same("mixed() of one pair", x.mixed(), 1);
        x.pass(5);
        check.same("mixed() of two other pairs", x.mixed(), 2);
        check.noIndex("against(5, 0)", () -> x.against(5, 0));
        check.noIndex("against(-1, 0)", () -> x.against(-1, 0));
        check.noIndex("against(0, 3)", () -> x.against(0, 3));
        check.noIndex("against(0, -1)", () -> x.against(0, -1));
    }

    private static void plan(WaveUpgrade x, int... due) {
        for (int what = 0; what < 5; what++) {
            check.same("plan(" + what + ") at " + x.setting(11), x.plan(what), due[what]);
        }
    }

    /** Promises 23 to 25, 40, and sections 3 and 4: a plan of one step. */
    private static void plan() {
        WaveUpgrade x = cluster();
        plan(x, 0, -1, -1, -1, -1);
        check.same("lagging() without a plan", x.lagging(), 0);
        check.same("blocked() without a plan", x.blocked(), 0);
        check.same("start(1)", x.start(1), 1);
        plan(x, 1, 1, 1, 0, -1);
        check.same("lagging() at 0", x.lagging(), 3);
        check.same("blocked() at 0", x.blocked(), 0);
        x.pass(1);
        check.same("down(0) at 1", x.down(0), 1);
        check.same("lagging() at 1", x.lagging(), 3);
        check.same("blocked() at 1", x.blocked(), 2);
        x.pass(5);
        check.same("down(0) at 6", x.down(0), 2);
        check.same("lagging() at 6", x.lagging(), 2);
        check.same("blocked() at 6", x.blocked(), 0);
        x.pass(4);
        plan(x, 1, 1, 1, 0, -1);
        x.pass(1);
        plan(x, 2, 1, 1, 0, 21);
        check.same("lagging() at 11", x.lagging(), 0);
        x.pass(9);
        plan(x, 2, 1, 1, 0, 21);
        x.pass(1);
        plan(x, 1, 1, 1, 1, -1);
        check.same("down(1) at 21", x.down(1), 4);
        check.same("lagging() at 21", x.lagging(), 12);
        check.same("blocked() at 21: held back", x.blocked(), 8);
        x.pass(5);
        plan(x, 2, 1, 1, 1, 36);
        check.same("lagging() at 26: held back", x.lagging(), 8);
        x.pass(10);
        plan(x, 4, -1, -1, -1, -1);
        check.same("lagging() when done", x.lagging(), 0);
        check.same("blocked() when done", x.blocked(), 0);
        check.same("the one of no wave", x.member(4, 1), 0);
        check.noArgument("plan(-1)", () -> x.plan(-1));
        check.noArgument("plan(5)", () -> x.plan(5));
    }

    /** Two steps up, and two steps down. */
    private static void planDownwards() {
        String text = "version a 1 1;version b 1 1;version c 1 1;talks a b;talks b c;place p;place q;"
                + "member m p a;member n q a;wave p;wave q;takes 1;soak 0;";
        WaveUpgrade x = Check.cluster(text);
        check.same("start(2): the first step", x.start(2), 1);
        int[][] due = {{1, 2, 1, 0, -1}, {2, 2, 1, 0, 2}, {1, 2, 1, 1, -1}, {2, 2, 1, 1, 4}, {1, 2, 2, 0, -1},
            {2, 2, 2, 0, 6}, {1, 2, 2, 1, -1}, {2, 2, 2, 1, 8}, {4, -1, -1, -1, -1}};
        for (int[] each : due) {
            x.pass(1);
            plan(x, each);
        }
        check.same("start(0): the first step", x.start(0), 1);
        check.same("lagging() downwards", x.lagging(), 1);
        x.pass(1);
        check.same("down(0) downwards", x.down(0), 1);
        check.same("next version downwards", x.member(0, 2), 1);
        x.pass(4);
        plan(x, 1, 0, 0, 0, -1);
        x.pass(4);
        plan(x, 4, -1, -1, -1, -1);
        check.same("with(0) downwards", x.with(0), 3);
    }

    /** A wave without members that count is complete at once; no wave of the plan is left out. */
    private static void emptyWaves() {
        WaveUpgrade x = Check.cluster("version a 1 1;version b 1 1;talks a b;place p;place q;place r;"
                + "member m q a;member n r a held;wave p;wave q;wave r;takes 2;soak 1;");
        x.start(1);
        x.pass(1);
        plan(x, 2, 1, 1, 0, 2);
        x.pass(1);
        plan(x, 1, 1, 1, 1, -1);
        x.pass(2);
        plan(x, 2, 1, 1, 1, 5);
        x.pass(1);
        plan(x, 2, 1, 1, 2, 6);
        x.pass(1);
        plan(x, 4, -1, -1, -1, -1);
        check.same("the one held back", x.member(1, 1), 0);
    }

    /** Promise 28, and section 4 (b). */
    private static void measures() {
        WaveUpgrade x = Check.cluster(CLUSTER + "limit 10;");
        check.same("meanMeasure() without a plan", x.meanMeasure(), 0.0);
        x.report(3, 900);
        x.report(4, 900);
        x.start(1);
        check.same("meanMeasure() of nobody", x.meanMeasure(), 0.0);
        x.pass(11);
        check.same("meanMeasure() of two", x.meanMeasure(), 0.0);
        x.report(0, 11);
        x.report(1, 10);
        check.same("meanMeasure()", x.meanMeasure(), 10.5);
        x.report(1, 9);
        x.pass(1);
        plan(x, 2, 1, 1, 0, 21);
        x.report(0, 12);
        check.same("meanMeasure() by a half above", x.meanMeasure(), 10.5);
        x.pass(1);
        plan(x, 3, 1, 1, 0, 21);
        check.same("event: stopped", x.event(0, 1), 4);
        check.same("event: its minute", x.event(0, 0), 13);
        check.same("meanMeasure() when stopped", x.meanMeasure(), 10.5);
        x.pass(10);
        plan(x, 3, 1, 1, 0, 21);
        x.go();
        plan(x, 2, 1, 1, 0, 21);
        x.pass(1);
        plan(x, 3, 1, 1, 0, 21);
        x.report(0, 0);
        x.go();
        x.pass(1);
        plan(x, 1, 1, 1, 1, -1);
        WaveUpgrade y = Check.cluster("version a 1 1;version b 1 1;talks a b;place p;place q;member m p b held;"
                + "member n p a;member o q b;wave p;limit 0;");
        y.report(0, 1);
        y.report(2, 7);
        y.start(1);
        check.same("meanMeasure() of one held back", y.meanMeasure(), 1.0);
        y.pass(1);
        plan(y, 3, 1, 1, 0, -1);
        check.same("nothing began", y.down(0), 0);
        WaveUpgrade z = Check.cluster("version a 1 1;place p;member k p a;member l p a;member m p a held;wave p;");
        z.report(0, 1);
        z.start(0);
        check.same("meanMeasure() when done", z.meanMeasure(), 0.0);
    }

    /** Promise 27. */
    private static void share() {
        WaveUpgrade x = cluster();
        check.same("share(0)", x.share(0), 1.0f);
        check.same("share(1)", x.share(1), 0.0f);
        x.change(0, 1);
        check.same("share(0) with one down", x.share(0), 0.75f);
        x.change(4, 1);
        x.pass(5);
        check.same("share(1)", x.share(1), 0.25f);
        check.noIndex("share(3)", () -> x.share(3));
        check.noIndex("share(-1)", () -> x.share(-1));
        check.same("share without planned ones", Check.cluster("version a 1 1;place p;member m p a;").share(0), 0.0f);
        WaveUpgrade y = Check.cluster("version a 1 1;version b 1 1;talks a b;place p;member k p a;member l p b;"
                + "member m p b;wave p;");
        check.same("share of thirds", y.share(1), (double) (2.0f / 3.0f));
    }

    /** Promises 29 and 30. */
    private static void format() {
        WaveUpgrade x = cluster();
        check.same("whyNotCommit(1)", x.whyNotCommit(1), 1);
        check.same("whyNotCommit(2)", x.whyNotCommit(2), 0);
        check.same("whyNotCommit(3)", x.whyNotCommit(3), 2);
        check.same("highestFormat()", x.highestFormat(), 2);
        x.commit(2);
        check.same("whyNotCommit(1) then", x.whyNotCommit(1), 1);
        check.same("whyNotCommit(2) then", x.whyNotCommit(2), 1);
        check.noArgument("whyNotCommit(0)", () -> x.whyNotCommit(0));
        check.noArgument("whyNotCommit(10)", () -> x.whyNotCommit(10));
        WaveUpgrade y = Check.cluster(VERSIONS + PLACES + "member m here old;");
        y.change(0, 1);
        check.same("whyNotCommit(3): what comes counts", y.whyNotCommit(3), 0);
        check.same("highestFormat(): what comes counts", y.highestFormat(), 3);
        check.same("highestFormat() without members", Check.cluster(VERSIONS).highestFormat(), -1);
        check.same("whyNotCommit(9) without members", Check.cluster(VERSIONS).whyNotCommit(9), 0);
        check.same("highestFormat() of the lowest",
                Check.cluster("version a 1 1;place p;member m p a;").highestFormat(), 1);
        WaveUpgrade z = Check.cluster("version a 1 2;version b 2 3;format 2;place p;place q;member m p a;member n q b;");
        check.same("highestFormat() of two", z.highestFormat(), 2);
    }

    /** Promise 31. */
    private static void wayBack() {
        check.same("wayBack() without members", Check.cluster(VERSIONS).wayBack(), -1);
        check.same("wayBack() of the lowest", cluster().wayBack(), 0);
        String text = VERSIONS + "place p;place q;member m p mid;member n q new;";
        WaveUpgrade x = Check.cluster("format 2;" + text);
        check.same("wayBack() by one", x.wayBack(), 0);
        x.pass(1);
        WaveUpgrade y = Check.cluster("format 3;" + text);
        check.same("wayBack() with no way back", y.wayBack(), 1);
        y.change(0, 2);
        check.same("wayBack() of what comes", y.wayBack(), 1);
        WaveUpgrade z = Check.cluster("version a 1 1;version b 1 1;version c 1 1;talks b c;place p;member m p c;");
        check.same("wayBack() as far as they talk", z.wayBack(), 1);
    }

    /** Promise 32. */
    private static void minutesToEnd() {
        WaveUpgrade x = cluster();
        check.same("minutesToEnd without a plan", x.minutesToEnd(2000), -1);
        x.start(1);
        check.same("minutesToEnd(2000)", x.minutesToEnd(2000), 36);
        check.same("minutesToEnd(36)", x.minutesToEnd(36), 36);
        check.same("minutesToEnd(35)", x.minutesToEnd(35), -1);
        check.same("minutesToEnd(0)", x.minutesToEnd(0), -1);
        check.same("nothing changes", x.setting(11), 0);
        check.same("no event", x.events(), 1);
        x.pass(30);
        check.same("minutesToEnd later", x.minutesToEnd(9), 6);
        x.stop();
        check.same("minutesToEnd when stopped", x.minutesToEnd(2000), -1);
        x.go();
        x.pass(6);
        check.same("minutesToEnd(0) when done", x.minutesToEnd(0), 0);
        check.noArgument("minutesToEnd(-1)", () -> x.minutesToEnd(-1));
        check.noArgument("minutesToEnd(2001)", () -> x.minutesToEnd(2001));
        WaveUpgrade y = cluster();
        Check.script(y, "repeat 20 (pass 999;);pass 20;");
        y.start(1);
        check.same("minutesToEnd beyond the clock 20000", y.minutesToEnd(100), 36);
        y.change(0, 1);
        check.same("a change that ends beyond the clock 20000", y.member(0, 3), 20005);
        WaveUpgrade z = cluster();
        z.commit(2);
        check.same("start(2)", z.start(2), 1);
        check.same("minutesToEnd: too far from one that is held", z.minutesToEnd(2000), -1);
        z.pass(60);
        plan(z, 1, 2, 2, 0, -1);
        check.same("blocked() by the skew", z.blocked(), 3);
    }

    private static final String HELD = "version a 1 1;version b 1 1;talks a b;place p;place q;place r;takes 3;soak 0;"
            + "member k p a;member l q a held;member m p b held;member n r a held;wave p;wave q;";

    /** Promises 33 and 34. */
    private static void freeing() {
        WaveUpgrade x = Check.cluster(HELD);
        check.same("minutesIfFree(0) without a plan", x.minutesIfFree(0), -1);
        check.same("bestToFree() without a plan", x.bestToFree(), -1);
        x.start(1);
        check.same("minutesToEnd", x.minutesToEnd(2000), 6);
        check.same("minutesIfFree(0): it is not held back", x.minutesIfFree(0), 6);
        check.same("minutesIfFree(1): it changes too", x.minutesIfFree(1), 9);
        check.same("minutesIfFree(2)", x.minutesIfFree(2), 6);
        check.same("minutesIfFree(3)", x.minutesIfFree(3), 6);
        check.same("bestToFree(): the lowest of two", x.bestToFree(), 2);
        check.same("nothing changes", x.member(2, 5), 1);
        x.hold(2, false);
        check.same("bestToFree() then", x.bestToFree(), 3);
        x.hold(3, false);
        check.same("bestToFree() of one", x.bestToFree(), 1);
        x.hold(1, false);
        check.same("bestToFree() of none", x.bestToFree(), -1);
        check.noIndex("minutesIfFree(4)", () -> x.minutesIfFree(4));
        check.noIndex("minutesIfFree(-1)", () -> x.minutesIfFree(-1));
        WaveUpgrade y = Check.cluster(HELD);
        y.hold(0, true);
        y.start(1);
        check.same("done at once", y.bestToFree(), 0);
        WaveUpgrade z = Check.cluster("version a 1 1;version b 1 1;version c 1 1;talks a b;talks b c;place p;place q;"
                + "place r;member k p a;member l q a held;member m r b held;wave p;wave q r;soak 0;takes 1;");
        z.start(2);
        check.same("minutesToEnd with one that is too far", z.minutesToEnd(2000), -1);
        check.same("bestToFree() of the one that lets it go on", z.bestToFree(), 1);
    }

    /** Promise 35. */
    private static void changesIn() {
        WaveUpgrade x = cluster();
        check.same("changesIn without a plan", x.changesIn(2000), 0);
        x.start(1);
        int[][] due = {{0, 0}, {1, 1}, {5, 1}, {6, 2}, {20, 2}, {21, 3}, {2000, 3}};
        for (int[] each : due) {
            check.same("changesIn(" + each[0] + ")", x.changesIn(each[0]), each[1]);
        }
        check.same("nothing changes", x.down(0), 0);
        check.noArgument("changesIn(-1)", () -> x.changesIn(-1));
        check.noArgument("changesIn(2001)", () -> x.changesIn(2001));
        x.stop();
        check.same("changesIn when stopped", x.changesIn(2000), 0);
        Check.script(x, "repeat 20 (pass 999;);");
        x.pass(20);
        x.go();
        check.same("changesIn beyond the clock 20000", x.changesIn(100), 3);
        WaveUpgrade y = Check.cluster(CLUSTER + "down 2;limit 0;");
        y.start(1);
        check.same("changesIn(1) of two at once", y.changesIn(1), 2);
    }

    /** Promise 36. */
    private static void wouldStop() {
        WaveUpgrade x = cluster();
        check.same("wouldStop without a plan", x.wouldStop(0, 999), false);
        x.start(1);
        check.same("wouldStop: it is not ready", x.wouldStop(0, 999), false);
        x.pass(6);
        check.same("wouldStop(0, 50)", x.wouldStop(0, 50), false);
        check.same("wouldStop(0, 51)", x.wouldStop(0, 51), true);
        check.same("wouldStop of one that is down", x.wouldStop(1, 999), false);
        check.same("wouldStop of one of no wave", x.wouldStop(4, 999), false);
        x.pass(4);
        check.same("wouldStop: its change ends", x.wouldStop(1, 999), false);
        check.same("wouldStop: two count then", x.wouldStop(0, 101), true);
        check.same("wouldStop: the mean of two", x.wouldStop(0, 100), false);
        check.same("nothing changes", x.member(0, 4), 0);
        check.noIndex("wouldStop(5, 0)", () -> x.wouldStop(5, 0) ? 1 : 0);
        check.noIndex("wouldStop(-1, 1000)", () -> x.wouldStop(-1, 1000) ? 1 : 0);
        check.noArgument("wouldStop(0, -1)", () -> x.wouldStop(0, -1) ? 1 : 0);
        check.noArgument("wouldStop(0, 1000)", () -> x.wouldStop(0, 1000) ? 1 : 0);
        x.stop();
        check.same("wouldStop when stopped", x.wouldStop(0, 999), false);
    }

    private static void event(WaveUpgrade x, int i, int... due) {
        for (int what = 0; what < 4; what++) {
            check.same("event(" + i + ", " + what + ")", x.event(i, what), due[what]);
        }
    }

    /** Promises 37 and 38, and section 6. */
    private static void events() {
        WaveUpgrade x = cluster();
        x.pass(3);
        x.start(1);
        x.pass(6);
        x.stop();
        x.go();
        x.hold(3, false);
        x.hold(3, true);
        x.commit(2);
        x.report(0, 3);
        check.same("events()", x.events(), 9);
        event(x, 8, 3, 2, -1, 1);
        event(x, 7, 4, 0, 0, 1);
        event(x, 6, 9, 1, 0, 1);
        event(x, 5, 9, 0, 1, 1);
        event(x, 4, 9, 4, -1, 0);
        event(x, 3, 9, 5, -1, 0);
        event(x, 2, 9, 8, 3, 0);
        event(x, 1, 9, 8, 3, 1);
        event(x, 0, 9, 7, -1, 2);
        x.pass(15);
        event(x, 0, 24, 0, 2, 1);
        event(x, 1, 14, 3, -1, 0);
        event(x, 2, 14, 1, 1, 1);
        x.pass(15);
        event(x, 0, 39, 6, -1, 1);
        event(x, 1, 29, 3, -1, 1);
        x.start(1);
        event(x, 0, 39, 6, -1, 1);
        event(x, 1, 39, 2, -1, 1);
        check.noIndex("event(-1, 0)", () -> x.event(-1, 0));
        check.noIndex("event behind the last", () -> x.event(x.events(), 0));
        check.noIndex("event behind the last, of no number", () -> x.event(x.events(), 4));
        check.noArgument("event(0, 4)", () -> x.event(0, 4));
        check.noArgument("event(0, -1)", () -> x.event(0, -1));
        WaveUpgrade y = cluster();
        for (int k = 1; k <= 31; k++) {
            y.pass(1);
            y.hold(0, k % 2 == 1);
            check.same("events() of " + k, y.events(), Math.min(k, 30));
        }
        event(y, 0, 31, 8, 0, 1);
        event(y, 29, 2, 8, 0, 0);
        check.noIndex("event(30, 0)", () -> y.event(30, 0));
        WaveUpgrade z = Check.cluster(CLUSTER + "down 2;");
        z.change(1, 1);
        z.change(0, 1);
        z.pass(5);
        event(z, 0, 5, 1, 1, 1);
        event(z, 1, 5, 1, 0, 1);
    }

    /** Promise 39. */
    private static void pass() {
        WaveUpgrade x = cluster();
        check.same("pass(0)", x.pass(0), 0);
        check.same("pass(999)", x.pass(999), 999);
        check.noArgument("pass(-1)", () -> x.pass(-1));
        check.noArgument("pass(1000)", () -> x.pass(1000));
        for (int k = 2; k <= 20; k++) {
            check.same("pass number " + k, x.pass(999), 999 * k);
        }
        check.noArgument("pass(21)", () -> x.pass(21));
        check.same("the clock", x.setting(11), 19980);
        check.same("pass(20)", x.pass(20), 20000);
        check.noArgument("pass(1)", () -> x.pass(1));
        check.same("pass(0) at the end", x.pass(0), 20000);
        check.same("undo", x.undo(), 5);
    }

    /** Promise 40. */
    private static void start() {
        WaveUpgrade x = cluster();
        check.noIndex("start(3)", () -> x.start(3));
        check.noIndex("start(-1)", () -> x.start(-1));
        check.same("start(0): done at once", x.start(0), -1);
        plan(x, 4, -1, -1, -1, -1);
        event(x, 1, 0, 2, -1, 0);
        event(x, 0, 0, 6, -1, 0);
        check.same("start(2) when done", x.start(2), 1);
        check.noState("start(1) when rolling", () -> x.start(1));
        check.noIndex("start(3) when rolling", () -> x.start(3));
        x.stop();
        check.same("start(1) when stopped", x.start(1), 1);
        x.pass(11);
        check.noState("start(1) when soaking", () -> x.start(1));
        x.stop();
        check.same("start(1) when it soaked and was stopped", x.start(1), 1);
        plan(x, 1, 1, 1, 0, -1);
        WaveUpgrade y = Check.cluster("version a 1 1;place p;member m p a;");
        check.noState("start without waves", () -> y.start(0));
        check.noIndex("start(1) without waves", () -> y.start(1));
        WaveUpgrade z = Check.cluster("version a 1 1;version b 1 1;place p;place q;member m p a held;member n q a;wave p;");
        check.same("start with all planned ones held back", z.start(1), -1);
        String three = "skew 3;version a 1 1;version b 1 1;version c 1 1;version d 1 1;talks a b;talks b c;talks c d;"
                + "talks a d;talks b d;talks a c;place p;place q;down 3;wave p;member k p b;member l p d;member n q a;";
        check.same("start(3) with one at 1", Check.cluster(three).start(3), 2);
        check.same("start(2) with one below and one above", Check.cluster(three).start(2), 2);
        check.same("start(1) with one at 1 and one at 3", Check.cluster(three).start(1), 2);
        check.same("start(0) with one at 1 and one at 3", Check.cluster(three).start(0), 2);
        WaveUpgrade w = Check.cluster(three);
        w.change(0, 3);
        check.same("start(3): what comes counts", w.start(3), -1);
        WaveUpgrade v = Check.cluster(three);
        v.start(2);
        check.same("those above are ready", v.lagging(), 1);
        v.pass(16);
        plan(v, 4, -1, -1, -1, -1);
        check.same("those above stay", v.member(1, 1), 3);
        WaveUpgrade u = Check.cluster(three);
        u.start(1);
        check.same("those below are ready", u.lagging(), 2);
    }

    /** Promises 41 and 42. */
    private static void stopAndGo() {
        WaveUpgrade x = cluster();
        check.noState("stop() without a plan", () -> x.stop());
        check.noState("go() without a plan", () -> x.go());
        x.start(1);
        check.noState("go() when rolling", () -> x.go());
        check.same("stop() when rolling", x.stop(), 0);
        plan(x, 3, 1, 1, 0, -1);
        check.same("lagging() when stopped", x.lagging(), 3);
        check.noState("stop() when stopped", () -> x.stop());
        x.pass(9);
        check.same("nothing begins when stopped", x.down(0), 0);
        check.same("go()", x.go(), 0);
        plan(x, 1, 1, 1, 0, -1);
        x.pass(26);
        plan(x, 2, 1, 1, 1, 45);
        check.same("stop() when soaking", x.stop(), 1);
        plan(x, 3, 1, 1, 1, 45);
        x.pass(20);
        plan(x, 3, 1, 1, 1, 45);
        check.same("go() when it soaked", x.go(), 1);
        plan(x, 2, 1, 1, 1, 45);
        x.pass(1);
        plan(x, 4, -1, -1, -1, -1);
        check.noState("stop() when done", () -> x.stop());
        check.noState("go() when done", () -> x.go());
        WaveUpgrade y = cluster();
        y.start(1);
        y.pass(1);
        y.stop();
        y.pass(5);
        check.same("what was begun ends when stopped", y.member(0, 1), 1);
    }

    /** Promise 43. */
    private static void hold() {
        WaveUpgrade x = cluster();
        check.same("hold(0, true)", x.hold(0, true), 2);
        check.noState("hold(0, true) again", () -> x.hold(0, true));
        check.same("hold(3, false)", x.hold(3, false), 1);
        check.noState("hold(3, false) again", () -> x.hold(3, false));
        check.same("hold(0, false)", x.hold(0, false), 0);
        check.noIndex("hold(5, true)", () -> x.hold(5, true));
        check.noIndex("hold(-1, false)", () -> x.hold(-1, false));
        x.change(0, 1);
        check.same("hold(0, true) of one that is down", x.hold(0, true), 1);
        x.pass(5);
        check.same("it comes up", x.member(0, 1), 1);
        WaveUpgrade y = cluster();
        y.start(1);
        y.pass(1);
        y.hold(0, true);
        y.hold(1, true);
        y.pass(1);
        plan(y, 2, 1, 1, 0, 12);
    }

    /** Promise 44. */
    private static void report() {
        WaveUpgrade x = cluster();
        check.same("report(0, 5)", x.report(0, 5), 0);
        check.same("report(0, 999)", x.report(0, 999), 5);
        check.same("report(0, 0)", x.report(0, 0), 999);
        check.same("report(3, 1) of one held back", x.report(3, 1), 0);
        check.noArgument("report(0, -1)", () -> x.report(0, -1));
        check.noArgument("report(0, 1000)", () -> x.report(0, 1000));
        check.noIndex("report(5, 1000)", () -> x.report(5, 1000));
        check.noIndex("report(-1, 0)", () -> x.report(-1, 0));
        check.same("no event", x.events(), 0);
        x.change(0, 1);
        check.noState("report of one that is down", () -> x.report(0, 1));
        check.noArgument("report(0, 1000) of one that is down", () -> x.report(0, 1000));
    }

    /** Promise 45. */
    private static void change() {
        WaveUpgrade x = cluster();
        x.pass(2);
        check.same("change(0, 1)", x.change(0, 1), 7);
        check.noState("change(0, 1) again", () -> x.change(0, 1));
        check.noState("change(1, 1): one is down there", () -> x.change(1, 1));
        check.noState("change(3, 1): held back", () -> x.change(3, 1));
        check.noState("change(2, 2): the format", () -> x.change(2, 2));
        check.noIndex("change(5, 0)", () -> x.change(5, 0));
        check.noIndex("change(-1, 0)", () -> x.change(-1, 0));
        check.noIndex("change(0, 3)", () -> x.change(0, 3));
        check.noIndex("change(0, -1)", () -> x.change(0, -1));
        x.pass(5);
        check.same("change(0, 0): back", x.change(0, 0), 12);
        x.pass(5);
        check.same("back", x.with(0), 31);
    }

    /** Promise 46. */
    private static void commit() {
        WaveUpgrade x = cluster();
        check.noState("commit(1)", () -> x.commit(1));
        check.noState("commit(3)", () -> x.commit(3));
        check.noArgument("commit(0)", () -> x.commit(0));
        check.noArgument("commit(10)", () -> x.commit(10));
        check.same("commit(2)", x.commit(2), 1);
        check.same("setting(5)", x.setting(5), 2);
        check.noState("commit(2) again", () -> x.commit(2));
        check.same("commit(9) of nobody", new WaveUpgrade().commit(9), 1);
    }

    /** Promises 47 and 48. */
    private static void writeReport() {
        WaveUpgrade x = cluster();
        check.noIndex("reportByte(0) ahead of a report", () -> x.reportByte(0));
        check.sameText("the report", Check.reportOf(x), "ma old\nmb old\nmc old\nmd old!\nme old\n");
        x.change(0, 1);
        x.hold(0, true);
        check.same("the report stays as it is", x.reportByte(6), '\n');
        check.sameText("the report of one that is down", Check.reportOf(x),
                "ma old>mid!\nmb old\nmc old\nmd old!\nme old\n");
        check.same("writeReport()", x.writeReport(), 41);
        check.same("reportByte(40)", x.reportByte(40), 10);
        check.noIndex("reportByte(41)", () -> x.reportByte(41));
        check.noIndex("reportByte(-1)", () -> x.reportByte(-1));
        x.undo();
        check.same("undo leaves the report", x.reportByte(10), '!');
        WaveUpgrade y = new WaveUpgrade();
        check.same("a report of nobody", y.writeReport(), 0);
        check.noIndex("reportByte(0) of nobody", () -> y.reportByte(0));
        StringBuilder text = new StringBuilder("version aaaaaaaa 1 1;version bbbbbbbb 1 1;talks aaaaaaaa bbbbbbbb;place p;down 12;");
        for (char k = 'a'; k < 'm'; k++) {
            text.append("member ").append(("" + k).repeat(8)).append(" p aaaaaaaa;");
        }
        WaveUpgrade z = Check.cluster(text.toString());
        for (int k = 0; k < 12; k++) {
            z.change(k, 1);
            z.hold(k, true);
        }
        check.same("the longest report", z.writeReport(), 336);
        check.same("its last sign", z.reportByte(334), '!');
    }

    /** Promise 49, and section 8. */
    private static void undo() {
        WaveUpgrade x = cluster();
        x.pass(1);
        x.start(1);
        x.stop();
        x.go();
        x.hold(0, true);
        x.report(1, 7);
        x.change(2, 1);
        x.commit(2);
        Check.put(x, "pass 3;");
        check.same("undo of commit()", x.undo(), 5);
        check.same("the format", x.setting(5), 1);
        check.same("undo of change()", x.undo(), 4);
        check.same("nobody is down", x.down(1), 0);
        check.same("undo of report()", x.undo(), 3);
        check.same("the measure", x.member(1, 4), 0);
        check.same("undo of hold()", x.undo(), 2);
        check.same("not held back", x.member(0, 5), 0);
        check.same("undo of go()", x.undo(), 1);
        check.same("stopped", x.plan(0), 3);
        check.same("undo of stop()", x.undo(), 0);
        check.same("rolling", x.plan(0), 1);
        check.same("events()", x.events(), 1);
        check.same("only six are kept", x.undo(), -1);
        check.same("nothing changes", x.plan(0), 1);
        check.same("the buffer stays", x.runScript(), 1);
        check.same("the clock", x.setting(11), 4);
        check.same("undo of runScript()", x.undo(), 0);
        x.pass(0);
        check.same("undo of pass(0)", x.undo(), 0);
        check.noState("a call that throws", () -> x.go());
        check.same("is not kept", x.undo(), -1);
        undoOfEvents();
        Check.errorOf(x, "foo", true);
        x.undo();
        check.same("undo leaves the error", x.errorCode(), 1);
    }

    private static void undoOfEvents() {
        WaveUpgrade x = cluster();
        for (int k = 1; k <= 33; k++) {
            x.pass(1);
            x.hold(k % 3, (k - 1) / 3 % 2 == 0);
        }
        event(x, 0, 33, 8, 0, 1);
        event(x, 29, 4, 8, 1, 0);
        check.same("undo of hold()", x.undo(), 5);
        check.same("events() as they were", x.events(), 30);
        event(x, 0, 32, 8, 2, 1);
        event(x, 29, 3, 8, 0, 1);
        x.undo();
        x.undo();
        event(x, 0, 31, 8, 1, 1);
        event(x, 29, 2, 8, 2, 1);
        x.commit(2);
        event(x, 0, 32, 7, -1, 2);
        event(x, 1, 31, 8, 1, 1);
        x.save();
        x.hold(4, true);
        x.restore();
        event(x, 0, 32, 7, -1, 2);
        event(x, 29, 3, 8, 0, 1);
    }

    /** Promises 50 and 51. */
    private static void saved() {
        WaveUpgrade x = cluster();
        check.noState("restore() of nothing", () -> x.restore());
        x.start(1);
        x.pass(8);
        x.hold(0, true);
        check.same("save()", x.save(), 8);
        int events = x.events();
        check.same("save() is no change", x.undo(), 2);
        x.pass(50);
        check.sameText("another text", Check.errorOf(x, "soak 3;", false), "0@-1");
        x.pass(1);
        Check.errorOf(x, "foo;", false);
        Check.put(x, "pass 2;");
        check.same("restore()", x.restore(), 8);
        check.same("the error stays", x.errorCode(), 1);
        check.same("members", x.setting(2), 5);
        check.same("soaking time", x.setting(9), 10);
        check.same("events", x.events(), events);
        check.same("the held one", x.member(0, 5), 1);
        check.same("the one that is down", x.member(1, 3), 11);
        check.same("partners", x.partners(0), 6);
        check.same("waves", x.inWave(1), 12);
        plan(x, 1, 1, 1, 0, -1);
        check.same("restore() forgets what can be undone", x.undo(), -1);
        check.same("the buffer stays", x.runScript(), 1);
        x.report(0, 77);
        check.same("restore() again", x.restore(), 8);
        check.same("what was saved stays", x.member(0, 4), 0);
        x.pass(4);
        check.same("save() in place", x.save(), 12);
        x.pass(4);
        check.same("undo() leaves what is saved", x.undo(), 1);
        check.same("restore() of the later one", x.restore(), 12);
        plan(x, 2, 1, 1, 0, 21);
    }
}
