/** The edges of promises 32 to 36: what will be if only minutes pass. */
final class EdgeAheadTest {
    private static final Check check = new Check("EdgeAheadTest");
    private static final String TWO = "version a 1 1;version b 1 1;talks a b;place p;place q;place r;";
    /** Done at minute 1 + 12 * (99 + 99) = 2377: six steps, two waves, one member in each. */
    private static final String LONG = "skew 7;version a 1 1;version b 1 1;version c 1 1;version d 1 1;version e 1 1;version f 1 1;"
            + "version g 1 1;talks a b;talks b c;talks c d;talks d e;talks e f;talks f g;place p;place q;place r;"
            + "member k p a;member l q a;member m r a held;wave p;wave q;takes 99;soak 99;";

    public static void main(String[] args) {
        states();
        limits();
        longest();
        ifFree();
        bestToFree();
        changesIn();
        changesThatBegin();
        wouldStop();
        beyondTheClock();
        check.end();
    }

    private static void states() {
        check.sentence("Returns the least number of minutes, up to limit, behind which the plan is done (0 if it is done now); NONE if"
                + " there is none.");
        WaveUpgrade x = Check.cluster(TWO + "member k p a;wave p;takes 2;soak 3;");
        ahead(x, -1, -1, 0, false);
        x.start(1);
        ahead(x, -1, 6, 1, false);
        x.stop();
        ahead(x, -1, -1, 0, false);
        x.go();
        x.pass(3);
        ahead(x, -1, 3, 0, true);
        x.stop();
        ahead(x, -1, -1, 0, false);
        x.go();
        x.pass(2);
        ahead(x, -1, 1, 0, true);
        x.pass(1);
        ahead(x, 0, 0, 0, false);
        x.start(0);
        ahead(x, -1, 6, 1, false);
        ahead(new WaveUpgrade(), -1, -1, 0, false);
        WaveUpgrade y = Check.cluster(TWO + "member k p a;wave p;");
        y.start(0);
        ahead(y, 0, 0, 0, false);
    }

    private static void ahead(WaveUpgrade x, int ofZero, int ofMost, int changes, boolean isStopped) {
        String at = " in state " + x.plan(0) + " at " + x.setting(11);
        check.same("minutesToEnd(0)" + at, x.minutesToEnd(0), ofZero);
        check.same("minutesToEnd(2000)" + at, x.minutesToEnd(2000), ofMost);
        check.same("changesIn(0)" + at, x.changesIn(0), 0);
        check.same("changesIn(2000)" + at, x.changesIn(2000), changes);
        if (x.setting(2) > 0) {
            check.same("wouldStop(0, 999)" + at, x.wouldStop(0, 999), isStopped);
            check.same("wouldStop(0, 0)" + at, x.wouldStop(0, 0), false);
            check.same("minutesIfFree(0)" + at, x.minutesIfFree(0), ofMost);
        }
    }

    private static void limits() {
        check.sentence("- `limit`: 0 to 2000");
        WaveUpgrade x = Check.cluster(TWO + "member k p a;member l q a;wave p;wave q;takes 2;soak 3;");
        x.start(1);
        for (int left = 11; left > 0; left--) {
            check.same("as many as it takes: " + left, x.minutesToEnd(left), left);
            check.same("one more than " + left, x.minutesToEnd(left + 1), left);
            check.same("one less than " + left, x.minutesToEnd(left - 1), -1);
            check.same("2000 for " + left, x.minutesToEnd(2000), left);
            check.same("1999 for " + left, x.minutesToEnd(1999), left);
            x.pass(1);
        }
        check.same("done", x.minutesToEnd(0), 0);
        check.same("done", x.minutesToEnd(1), 0);
        check.noArgument("2001", () -> x.minutesToEnd(2001));
        check.noArgument("-1", () -> x.minutesToEnd(-1));
        check.noArgument("2001 without a plan", () -> new WaveUpgrade().minutesToEnd(2001));
        check.noArgument("-1 without a plan", () -> new WaveUpgrade().minutesToEnd(-1));
        WaveUpgrade y = Check.cluster(TWO + "member k p a;wave p;limit 0;");
        y.start(1);
        y.pass(6);
        y.report(0, 1);
        check.same("it will be stopped", y.minutesToEnd(2000), -1);
        WaveUpgrade z = Check.cluster("version a 1 1;version b 2 2;talks a b;place p;member k p a;wave p;");
        z.start(1);
        check.same("nobody may begin", z.minutesToEnd(2000), -1);
        check.same("no change", z.changesIn(2000), 0);
        WaveUpgrade v = Check.cluster("version a 1 1;version b 1 1;version c 1 1;talks a b;talks b c;place p;place q;member k p a;"
                + "member l q b;wave p;takes 7;soak 3;");
        v.start(2);
        check.same("too far from one that stays", v.minutesToEnd(2000), 21);
        v.change(1, 0);
        check.same("one that will be too far from it", v.minutesToEnd(2000), -1);
        check.same("one step of two", v.changesIn(2000), 1);
    }

    private static void longest() {
        check.sentence("Throws `IllegalArgumentException` if limit is out of range");
        WaveUpgrade x = Check.cluster(LONG);
        check.same("start", x.start(6), 1);
        x.pass(376);
        check.same("2001 are left", x.minutesToEnd(2000), -1);
        check.same("2001 are left, one free", x.minutesIfFree(2), -1);
        check.same("2001 are left, the best one", x.bestToFree(), -1);
        x.pass(1);
        check.same("2000 are left", x.minutesToEnd(2000), 2000);
        check.same("2000 are left, up to 1999", x.minutesToEnd(1999), -1);
        check.same("2000 are left, one free", x.minutesIfFree(2), 2000);
        check.same("2000 are left, one that is free", x.minutesIfFree(0), 2000);
        check.same("2000 are left, the best one", x.bestToFree(), 2);
        x.pass(1);
        check.same("1999 are left", x.minutesToEnd(2000), 1999);
        check.same("1999 are left, one free", x.minutesIfFree(2), 1999);
    }

    private static void ifFree() {
        check.sentence("Returns the same with the limit 2000 if a member was not held back (from now on).");
        String text = TWO + "member k p a;member l p a held;member m q a held;member n r a held;wave p;wave q;takes 3;soak 2;";
        WaveUpgrade x = Check.cluster(text);
        for (int member = 0; member < 4; member++) {
            check.same("minutesIfFree(" + member + ") without a plan", x.minutesIfFree(member), -1);
        }
        x.start(1);
        check.same("minutesToEnd", x.minutesToEnd(2000), 8);
        int[] due = {8, 11, 11, 8};
        for (int member = 0; member < 4; member++) {
            check.same("minutesIfFree(" + member + ")", x.minutesIfFree(member), due[member]);
        }
        check.same("nobody is free behind it", x.member(1, 5) + x.member(2, 5) + x.member(3, 5), 3);
        x.pass(6);
        check.same("behind its wave", x.minutesIfFree(1), 2);
        check.same("ahead of its begin", x.minutesIfFree(2), 2);
        x.stop();
        check.same("when stopped", x.minutesIfFree(2), -1);
        x.go();
        x.pass(2);
        check.same("when done", x.minutesIfFree(2), 0);
        check.noIndex("minutesIfFree(4)", () -> x.minutesIfFree(4));
        check.noIndex("minutesIfFree(-1)", () -> x.minutesIfFree(-1));
        check.noIndex("minutesIfFree(0) of a new object", () -> new WaveUpgrade().minutesIfFree(0));
    }

    private static void bestToFree() {
        check.sentence("Returns the member that is held back for which minutesIfFree() is least, the lowest one of several; NONE if it is"
                + " NONE for all that are held back.");
        check.same("of a new object", new WaveUpgrade().bestToFree(), -1);
        WaveUpgrade x = Check.cluster(TWO + "member k p a;member l p a held;member m q a held;member n r a held;member o p a;"
                + "member s q a;wave p;wave q;down 2;takes 3;soak 2;");
        check.same("without a plan", x.bestToFree(), -1);
        x.start(1);
        int[] minutes = {11, 14, 11, 11, 11, 11};
        for (int member = 0; member < 6; member++) {
            check.same("minutesIfFree(" + member + ")", x.minutesIfFree(member), minutes[member]);
        }
        check.same("11 and not 14 minutes, the lower one of two", x.bestToFree(), 2);
        x.hold(2, false);
        check.same("the one of no wave", x.bestToFree(), 3);
        x.hold(3, false);
        check.same("the only one", x.bestToFree(), 1);
        x.hold(1, false);
        check.same("nobody is held back", x.bestToFree(), -1);
        WaveUpgrade y = Check.cluster(TWO + "member k p a;member l q a held;member m r a held;wave p;");
        y.start(1);
        check.same("the lowest one of two", y.bestToFree(), 1);
        y.stop();
        check.same("none when stopped", y.bestToFree(), -1);
        WaveUpgrade z = Check.cluster(TWO + each("member # r a held;", 0, 11) + "member l p a held;wave p;");
        z.hold(11, false);
        z.start(1);
        z.hold(11, true);
        check.same("the lowest one of twelve", z.bestToFree(), 0);
        String far = "version a 1 1;version b 1 1;version c 1 1;talks a b;talks b c;place p;place q;wave p q;takes 1;soak 0;";
        WaveUpgrade v = Check.cluster(far + "member k p a;member l q a held;");
        v.start(2);
        check.same("one that keeps the others", v.minutesToEnd(2000), -1);
        check.same("it, if free", v.minutesIfFree(1), 5);
        check.same("it", v.bestToFree(), 1);
        WaveUpgrade w = Check.cluster(far + "member k p a;member l q a held;member m q a held;");
        w.start(2);
        check.same("two that keep the others", w.bestToFree(), -1);
    }

    private static String each(String statement, int from, int to) {
        StringBuilder all = new StringBuilder();
        for (int k = from; k < to; k++) {
            all.append(statement.replace('#', (char) ('a' + k)));
        }
        return all.toString();
    }

    private static void changesIn() {
        check.sentence("Returns how many changes would begin within so many minutes (0 to 2000) if only they passed.");
        WaveUpgrade x = Check.cluster(TWO + "member k p a;member l p a;member m q a;wave p;wave q;takes 3;soak 2;");
        check.same("without a plan", x.changesIn(2000), 0);
        x.start(1);
        int[] due = {0, 1, 1, 1, 2, 2, 2, 2, 2, 3, 3, 3};
        for (int minutes = 0; minutes < due.length; minutes++) {
            check.same("changesIn(" + minutes + ")", x.changesIn(minutes), due[minutes]);
        }
        check.same("changesIn(2000)", x.changesIn(2000), 3);
        x.pass(4);
        check.same("those that began do not count", x.changesIn(4), 0);
        check.same("the next one", x.changesIn(5), 1);
        check.noArgument("2001", () -> x.changesIn(2001));
        check.noArgument("-1", () -> x.changesIn(-1));
        check.noArgument("2001 without a plan", () -> new WaveUpgrade().changesIn(2001));
        check.noArgument("-1 without a plan", () -> new WaveUpgrade().changesIn(-1));
        check.same("2000 without a plan", new WaveUpgrade().changesIn(2000), 0);
        WaveUpgrade y = Check.cluster(LONG);
        y.start(6);
        check.same("within 2000: eleven of twelve", y.changesIn(2000), 11);
        check.same("up to the eleventh one", y.changesIn(1981), 11);
        check.same("ahead of the eleventh one", y.changesIn(1980), 10);
        y.pass(178);
        check.same("at minute 2000: the twelfth one is at 2179", y.changesIn(2000), 10);
        y.pass(1);
        check.same("within 2000 minutes, just so", y.changesIn(2000), 11);
        check.same("one minute less", y.changesIn(1999), 10);
    }

    private static void changesThatBegin() {
        check.sentence("if only they passed.");
        WaveUpgrade x = Check.cluster(TWO + "member k p a;member l p a;member m p a;wave p;down 3;takes 3;soak 2;");
        x.start(1);
        check.same("three at once", x.changesIn(1), 3);
        x.change(0, 1);
        check.same("those that began by hand do not count", x.changesIn(2000), 2);
        x.hold(1, true);
        check.same("those held back do not count", x.changesIn(2000), 1);
        WaveUpgrade y = Check.cluster(TWO + "member k p a;wave p;limit 0;");
        y.report(0, 9);
        y.start(1);
        check.same("not ready: it begins", y.changesIn(2000), 1);
        WaveUpgrade z = Check.cluster(TWO + "member k p a;member l p b;wave p;limit 8;");
        z.report(1, 9);
        z.start(1);
        check.same("it is stopped ahead of that", z.changesIn(2000), 0);
    }

    private static void wouldStop() {
        check.sentence("Returns whether the plan would be stopped by the next minute if a member's measure was this one.");
        WaveUpgrade x = Check.cluster(TWO + "member k p b;member l p b held;member m p a;member n r b;wave p;limit 10;takes 1;");
        x.start(1);
        for (int member = 0; member < 2; member++) {
            check.same("wouldStop(" + member + ", 0)", x.wouldStop(member, 0), false);
            check.same("wouldStop(" + member + ", 20)", x.wouldStop(member, 20), false);
            check.same("wouldStop(" + member + ", 21)", x.wouldStop(member, 21), true);
            check.same("wouldStop(" + member + ", 999)", x.wouldStop(member, 999), true);
        }
        check.same("not ready", x.wouldStop(2, 999), false);
        check.same("not planned", x.wouldStop(3, 999), false);
        x.report(0, 30);
        check.same("a lower one would not", x.wouldStop(0, 20), false);
        check.same("of another one", x.wouldStop(1, 0), true);
        check.same("of another one, not planned", x.wouldStop(3, 0), true);
        check.same("its measure is as it was", x.member(0, 4), 30);
        check.same("the plan is as it was", x.plan(0), 1);
        check.same("no event", x.events(), 1);
        x.report(0, 0);
        x.pass(1);
        check.same("down, with an end at the next minute: 0 then", x.wouldStop(2, 999), false);
        x.pass(1);
        check.same("up", x.wouldStop(2, 31), true);
        check.same("a mean of three", x.wouldStop(2, 30), false);
        check.noArgument("-1", () -> x.wouldStop(0, -1) ? 1 : 0);
        check.noArgument("1000", () -> x.wouldStop(0, 1000) ? 1 : 0);
        check.noIndex("member 4", () -> x.wouldStop(4, 0) ? 1 : 0);
        check.noIndex("member -1", () -> x.wouldStop(-1, 0) ? 1 : 0);
        check.noIndex("member 4, 1000", () -> x.wouldStop(4, 1000) ? 1 : 0);
        WaveUpgrade y = Check.cluster(TWO + "member k p b;member l q a;wave p;wave q;limit 999;");
        y.start(1);
        check.same("never above 999", y.wouldStop(0, 999), false);
        check.same("without a plan", Check.cluster(TWO + "member k p b;wave p;").wouldStop(0, 999), false);
    }

    private static void beyondTheClock() {
        check.sentence("what will be if only minutes pass (also beyond the clock 20000); nothing changes.");
        WaveUpgrade x = Check.cluster(TWO + "member k p b;member l q a;member m q a held;wave p;wave q;takes 3;soak 2;limit 9;");
        Check.script(x, "repeat 20 (pass 999;);pass 20;start b;");
        check.same("the clock", x.setting(11), 20000);
        check.same("minutesToEnd", x.minutesToEnd(2000), 8);
        check.same("minutesToEnd(7)", x.minutesToEnd(7), -1);
        check.same("minutesIfFree", x.minutesIfFree(2), 11);
        check.same("bestToFree", x.bestToFree(), 2);
        check.same("changesIn(3)", x.changesIn(3), 1);
        check.same("changesIn(2)", x.changesIn(2), 0);
        check.same("wouldStop", x.wouldStop(0, 10), true);
        check.same("wouldStop", x.wouldStop(0, 9), false);
        check.same("the clock", x.setting(11), 20000);
        check.same("the plan", x.plan(0), 1);
        check.noArgument("pass(1)", () -> x.pass(1));
    }
}
