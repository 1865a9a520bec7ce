import java.util.List;

/** The edges of promises 37, 38 and 47 to 51 and of sections 6 and 8: events, reports, undo and a saved cluster. */
final class EdgeKeepTest {
    private static final Check check = new Check("EdgeKeepTest");
    private static final String TWO = "version a 1 2;version b 1 3;talks a b;place p;place q;";
    private static final String CLUSTER = TWO + "member k p a;member l q a;member m q a held;wave p;wave q;takes 2;soak 3;";

    public static void main(String[] args) {
        kinds();
        latestThirty();
        eventsInLongPassing();
        wrongEvents();
        reports();
        longestReport();
        reportBytes();
        undoOfEach();
        latestSix();
        ringOfUndo();
        notUndone();
        forgotten();
        savedAndRestored();
        savedStays();
        notSaved();
        readTextReplaces();
        check.end();
    }

    private static void event(WaveUpgrade x, int i, int... due) {
        for (int what = 0; what < 4; what++) {
            check.same("event(" + i + ", " + what + ") at " + x.setting(11), x.event(i, what), due[what]);
        }
    }

    // ---- events

    private static void kinds() {
        check.sentence("0 a change begins (the version), 1 a change ends (the version), 2 a plan starts (the target; also one that is"
                + " done at once, ahead of 6), 3 a wave soaks (the wave), 4 it is stopped, by measures or by hand (the wave), 5 it goes"
                + " on (the wave), 6 it is done (the target), 7 a format is committed (the format), 8 a member is held back, or no more"
                + " (1 or 0). Kinds 2 to 7 have no member (NONE).");
        WaveUpgrade x = Check.cluster(CLUSTER + "limit 4;");
        check.same("none", x.events(), 0);
        x.pass(2);
        check.same("none of passing", x.events(), 0);
        x.change(1, 1);
        event(x, 0, 2, 0, 1, 1);
        x.pass(2);
        event(x, 0, 4, 1, 1, 1);
        x.start(1);
        event(x, 0, 4, 2, -1, 1);
        x.pass(1);
        event(x, 0, 5, 0, 0, 1);
        x.pass(2);
        event(x, 1, 7, 1, 0, 1);
        event(x, 0, 7, 3, -1, 0);
        x.pass(3);
        event(x, 0, 10, 3, -1, 1);
        x.stop();
        event(x, 0, 10, 4, -1, 1);
        x.go();
        event(x, 0, 10, 5, -1, 1);
        x.report(0, 9);
        event(x, 0, 10, 5, -1, 1);
        x.pass(1);
        event(x, 0, 11, 4, -1, 1);
        x.report(0, 8);
        x.go();
        x.pass(1);
        event(x, 0, 11, 5, -1, 1);
        x.pass(1);
        event(x, 0, 13, 6, -1, 1);
        x.commit(2);
        event(x, 0, 13, 7, -1, 2);
        x.hold(2, false);
        event(x, 0, 13, 8, 2, 0);
        x.hold(0, true);
        event(x, 0, 13, 8, 0, 1);
        x.start(0);
        event(x, 0, 13, 2, -1, 0);
        x.stop();
        x.hold(1, true);
        x.start(0);
        event(x, 1, 13, 2, -1, 0);
        event(x, 0, 13, 6, -1, 0);
        check.same("all of them", x.events(), 20);
        event(x, 19, 2, 0, 1, 1);
        x.save();
        x.writeReport();
        x.pass(0);
        check.same("none of these", x.events(), 20);
    }

    private static void latestThirty() {
        check.sentence("The latest 30 are kept, each with its minute, kind, member and another number:");
        for (int count : new int[] {0, 1, 2, 28, 29, 30, 31, 32, 59, 60, 61, 62, 89, 90, 91, 120, 121}) {
            WaveUpgrade x = Check.cluster(CLUSTER);
            for (int number = 1; number <= count; number++) {
                x.pass(number % 7 == 1 ? 1 : 0);
                x.hold(number % 2, (number - 1) / 2 % 2 == 0);
            }
            int kept = Math.min(count, 30);
            check.same("events() of " + count, x.events(), kept);
            for (int i = 0; i < kept; i++) {
                int number = count - i;
                event(x, i, (number + 6) / 7, 8, number % 2, (number - 1) / 2 % 2 == 0 ? 1 : 0);
            }
            check.noIndex("event(" + kept + ", 0)", () -> x.event(kept, 0));
            check.noIndex("event(-1, 0)", () -> x.event(-1, 0));
        }
    }

    private static void eventsInLongPassing() {
        WaveUpgrade x = Check.cluster("version a 1 1;version b 1 1;talks a b;place p;down 12;takes 1;soak 0;"
                + "member a p a;member b p a;member c p a;member d p a;member e p a;member f p a;member g p a;member h p a;"
                + "member i p a;member j p a;member k p a;member l p a;wave p;");
        x.start(1);
        x.pass(9);
        // A start, twelve begins, twelve ends, a soak and the end: 27.
        check.same("events()", x.events(), 27);
        event(x, 26, 0, 2, -1, 1);
        x.start(0);
        x.pass(1);
        check.same("events()", x.events(), 30);
        event(x, 0, 10, 0, 11, 0);
        event(x, 12, 9, 2, -1, 0);
        event(x, 13, 3, 6, -1, 1);
        event(x, 29, 1, 0, 9, 1);
        x.pass(9);
        event(x, 0, 12, 6, -1, 0);
        event(x, 1, 11, 3, -1, 0);
        event(x, 2, 11, 1, 11, 0);
        event(x, 26, 9, 2, -1, 0);
        event(x, 27, 3, 6, -1, 1);
        event(x, 28, 2, 3, -1, 0);
        event(x, 29, 2, 1, 11, 1);
        check.noIndex("event(30, 0)", () -> x.event(30, 0));
    }

    private static void wrongEvents() {
        check.sentence("`i`: 0 for the latest event, 1 for the one before it, and so on");
        WaveUpgrade z = Check.cluster(CLUSTER);
        z.hold(0, true);
        z.hold(1, true);
        event(z, 0, 0, 8, 1, 1);
        event(z, 1, 0, 8, 0, 1);
        check.sentence("Throws `IndexOutOfBoundsException` if there is no such event that is kept");
        WaveUpgrade x = Check.cluster(CLUSTER);
        check.noIndex("event(0, 0) of none", () -> x.event(0, 0));
        check.noIndex("event(0, 4) of none", () -> x.event(0, 4));
        check.noIndex("event(0, -1) of none", () -> x.event(0, -1));
        x.hold(0, true);
        event(x, 0, 0, 8, 0, 1);
        check.noIndex("event(1, 0) of one", () -> x.event(1, 0));
        check.noIndex("event(-1, 0) of one", () -> x.event(-1, 0));
        check.noIndex("event(1, 4) of one", () -> x.event(1, 4));
        check.noIndex("event(-1, -1) of one", () -> x.event(-1, -1));
        check.noArgument("event(0, 4) of one", () -> x.event(0, 4));
        check.noArgument("event(0, -1) of one", () -> x.event(0, -1));
        x.undo();
        check.noIndex("event(0, 0) of one that is undone", () -> x.event(0, 0));
    }

    // ---- reports

    private static void reports() {
        check.sentence("for each member its name, a space, the name of its version, for one that is down a greater-than sign (byte 62)"
                + " and the name of the next version, for one that is held back an exclamation mark, and a line feed.");
        check.same("of a new object", new WaveUpgrade().writeReport(), 0);
        check.same("without members", Check.cluster(TWO).writeReport(), 0);
        check.sameText("of one", Check.reportOf(Check.cluster(TWO + "member k p a;")), "k a\n");
        WaveUpgrade x = Check.cluster(CLUSTER);
        check.sameText("of three", Check.reportOf(x), "k a\nl a\nm a!\n");
        x.change(0, 1);
        check.sameText("one is down", Check.reportOf(x), "k a>b\nl a\nm a!\n");
        x.hold(0, true);
        check.sameText("down and held back", Check.reportOf(x), "k a>b!\nl a\nm a!\n");
        x.pass(1);
        check.sameText("down and held back", Check.reportOf(x), "k a>b!\nl a\nm a!\n");
        x.pass(1);
        check.sameText("up and held back", Check.reportOf(x), "k b!\nl a\nm a!\n");
        x.hold(2, false);
        check.sameText("up", Check.reportOf(x), "k b!\nl a\nm a\n");
    }

    private static void longestReport() {
        StringBuilder text = new StringBuilder("version aaaaaaaa 1 1;version zzzzzzzz 1 1;talks aaaaaaaa zzzzzzzz;place p;down 12;");
        StringBuilder due = new StringBuilder();
        for (char k = 'a'; k < 'm'; k++) {
            String name = ("" + k).repeat(8);
            text.append("member ").append(name).append(" p aaaaaaaa held;");
            due.append(name).append(" aaaaaaaa>zzzzzzzz!\n");
        }
        WaveUpgrade x = Check.cluster(text.toString());
        for (int member = 0; member < 12; member++) {
            x.hold(member, false);
            x.change(member, 1);
            x.hold(member, true);
        }
        check.sameText("the longest", Check.reportOf(x), due.toString());
        check.same("its bytes", x.writeReport(), 336);
        check.same("the last one", x.reportByte(335), 10);
        check.noIndex("behind it", () -> x.reportByte(336));
        check.same("62", x.reportByte(17), 62);
        check.same("33", x.reportByte(26), 33);
        check.same("32", x.reportByte(8), 32);
    }

    private static void reportBytes() {
        check.sentence("Throws `IndexOutOfBoundsException` if there is no such byte, or there was no report");
        WaveUpgrade x = Check.cluster(CLUSTER);
        check.noIndex("no report yet", () -> x.reportByte(0));
        check.noIndex("no report yet", () -> x.reportByte(-1));
        check.same("writeReport()", x.writeReport(), 13);
        check.same("the first byte", x.reportByte(0), 'k');
        check.same("the last byte", x.reportByte(12), 10);
        check.noIndex("reportByte(13)", () -> x.reportByte(13));
        check.noIndex("reportByte(-1)", () -> x.reportByte(-1));
        check.noIndex("reportByte(MAX_VALUE)", () -> x.reportByte(Integer.MAX_VALUE));
        check.noIndex("reportByte(MIN_VALUE)", () -> x.reportByte(Integer.MIN_VALUE));
        check.sentence("Writes a report, in place of the one before:");
        x.change(0, 1);
        x.hold(0, true);
        check.same("the report is as it was", x.reportByte(3), 10);
        check.noIndex("the report is as it was", () -> x.reportByte(13));
        check.same("a longer one", x.writeReport(), 16);
        check.same("its last byte", x.reportByte(15), 10);
        x.undo();
        x.undo();
        check.same("a shorter one", x.writeReport(), 13);
        check.noIndex("nothing is left of the longer one", () -> x.reportByte(13));
        x.readText();
        check.same("readText() leaves it", x.reportByte(12), 10);
        check.same("of nobody", x.writeReport(), 0);
        check.noIndex("nothing is left", () -> x.reportByte(0));
    }

    // ---- undo

    private static final Whole.Call[] CHANGES = {x -> x.pass(1), x -> x.pass(0), x -> x.start(1), x -> x.stop(), x -> x.go(),
        x -> x.hold(2, false), x -> x.hold(0, true), x -> x.report(1, 9), x -> x.change(1, 1), x -> x.commit(2),
        x -> Check.script(x, "pass 1;"), x -> Check.script(x, ""), x -> Check.script(x, "start a;")};

    private static WaveUpgrade changed(int count) {
        WaveUpgrade x = Check.cluster(CLUSTER);
        x.save();
        x.hold(1, true);
        x.hold(1, false);
        for (int k = 0; k < count; k++) {
            CHANGES[k].on(x);
        }
        return x;
    }

    private static void undoOfEach() {
        check.sentence("Each call of a method below \"changes\" and each call of runScript() (as a whole, also if no command was done) that"
                + " was done without an exception can be undone, the latest first; the latest 6 of them are kept.");
        for (int count = 0; count < CHANGES.length; count++) {
            int number = count;
            check.same("undo of call " + count, changed(count + 1).undo(), Math.min(5, count + 2));
            List<String> behind = answers(() -> {
                WaveUpgrade x = changed(number + 1);
                x.undo();
                return x;
            });
            check.sameText("all is as before call " + count, Whole.difference(behind, answers(() -> changed(number))), "");
        }
    }

    /** All but what can be undone, which saving and restoring takes away. */
    private static List<String> answers(Whole.Maker maker) {
        return Whole.allButText(() -> {
            WaveUpgrade x = maker.make();
            x.save();
            x.restore();
            return x;
        });
    }

    private static void latestSix() {
        for (int count = 0; count <= 14; count++) {
            WaveUpgrade x = Check.cluster(CLUSTER);
            for (int k = 0; k < count; k++) {
                x.pass(k + 1);
            }
            int kept = Math.min(count, 6);
            for (int left = kept - 1; left >= 0; left--) {
                check.same("undo of " + count, x.undo(), left);
                int behind = count - kept + left;
                check.same("the clock of " + count, x.setting(11), behind * (behind + 1) / 2);
            }
            check.sentence("@return the number of calls that can still be undone; NONE, and nothing changes, if there is none");
            check.same("undo of nothing", x.undo(), -1);
            check.same("undo of nothing", x.undo(), -1);
            int first = count - kept;
            check.same("the clock at last", x.setting(11), first * (first + 1) / 2);
        }
    }

    private static void ringOfUndo() {
        check.sentence("the latest 6 of them are kept.");
        for (int back = 0; back <= 6; back++) {
            for (int again = 0; again <= 8; again++) {
                WaveUpgrade x = Check.cluster(CLUSTER);
                for (int k = 0; k < 8; k++) {
                    x.pass(1);
                }
                for (int k = 0; k < back; k++) {
                    x.undo();
                }
                for (int k = 0; k < again; k++) {
                    x.pass(10);
                }
                int kept = Math.min(6, 6 - back + again);
                int clock = 8 - back + 10 * again;
                check.same("the clock", x.setting(11), clock);
                for (int left = kept - 1; left >= 0; left--) {
                    check.same("undo, back " + back + ", again " + again, x.undo(), left);
                    clock -= kept - left <= again ? 10 : 1;
                    check.same("the clock, back " + back + ", again " + again, x.setting(11), clock);
                }
                check.same("undo of nothing", x.undo(), -1);
            }
        }
    }

    private static void notUndone() {
        check.sentence("All is as before it then but the report, the buffer, the error and what is saved.");
        WaveUpgrade x = Check.cluster(CLUSTER);
        x.pass(1);
        x.pass(2);
        x.writeReport();
        x.save();
        Check.errorOf(x, "pass 1;;", true);
        Check.put(x, "pass 4;");
        check.same("undo()", x.undo(), 1);
        check.same("the clock", x.setting(11), 1);
        check.same("the report", x.reportByte(12), 10);
        check.same("the error's code", x.errorCode(), 1);
        check.same("the error's position", x.errorPosition(), 7);
        check.same("the buffer", x.truncate(7), 7);
        check.same("the buffer's text", x.runScript(), 1);
        check.same("the clock", x.setting(11), 5);
        check.same("what is saved", x.restore(), 3);
        WaveUpgrade y = Check.cluster(CLUSTER);
        y.pass(1);
        y.undo();
        check.noState("nothing is saved by it", () -> y.restore());
        check.noIndex("nothing is reported by it", () -> y.reportByte(0));
        y.feed(0, 0, 0, 0, 0);
        y.truncate(3);
        y.save();
        y.writeReport();
        y.setting(0);
        check.same("none of these can be undone", y.undo(), -1);
        check.same("the buffer", y.truncate(3), 3);
    }

    private static void forgotten() {
        check.sentence("readText() and restore() forget them.");
        WaveUpgrade x = Check.cluster(CLUSTER);
        x.pass(1);
        x.pass(1);
        check.noState("restore of nothing", () -> x.restore());
        check.sameText("a text with an error", Check.errorOf(x, "place", false), "1@5");
        check.same("these do not", x.undo(), 1);
        x.save();
        check.same("save() does not", x.undo(), 0);
        x.pass(1);
        check.same("restore()", x.restore(), 1);
        check.same("undo behind restore()", x.undo(), -1);
        x.pass(5);
        check.same("what comes behind it can be", x.undo(), 0);
        check.same("the clock", x.setting(11), 1);
        x.pass(7);
        check.same("readText()", x.readText(), 0);
        check.same("undo behind readText()", x.undo(), -1);
        x.pass(9);
        x.pass(9);
        check.same("what comes behind it can be", x.undo(), 1);
        check.same("what comes behind it can be", x.undo(), 0);
        check.same("undo of nothing", x.undo(), -1);
        for (int k = 0; k < 6; k++) {
            x.pass(1);
        }
        x.restore();
        check.same("all six are forgotten", x.undo(), -1);
        x.pass(1);
        check.same("none of them comes again", x.undo(), 0);
        check.same("none of them comes again", x.undo(), -1);
    }

    // ---- a saved cluster

    private static WaveUpgrade busy() {
        WaveUpgrade x = Check.cluster(CLUSTER + "limit 6;");
        for (int k = 0; k < 33; k++) {
            x.hold(1, k % 2 == 0);
        }
        x.hold(1, false);
        x.report(1, 5);
        x.commit(2);
        x.start(1);
        x.pass(1);
        return x;
    }

    private static void savedAndRestored() {
        check.sentence("Saves all but the buffer, the error, the report, what can be undone and what is saved, in place of an earlier one.");
        List<String> due = answers(EdgeKeepTest::busy);
        check.sameText("restored at once", Whole.difference(answers(() -> {
            WaveUpgrade x = busy();
            x.save();
            x.restore();
            return x;
        }), due), "");
        check.sameText("restored behind changes", Whole.difference(answers(() -> {
            WaveUpgrade x = busy();
            x.save();
            x.pass(50);
            x.hold(0, true);
            x.start(0);
            x.restore();
            return x;
        }), due), "");
        check.sameText("restored behind another text", Whole.difference(answers(() -> {
            WaveUpgrade x = busy();
            x.save();
            Check.errorOf(x, "version z 1 9;place y;place w;place v;member u v z;wave w v;soak 1;takes 1;limit 1;", false);
            x.start(0);
            x.pass(20);
            x.restore();
            return x;
        }), due), "");
        check.sameText("restored in place of a new one", Whole.difference(answers(() -> {
            WaveUpgrade x = new WaveUpgrade();
            x.save();
            Check.errorOf(x, CLUSTER, false);
            x.start(1);
            x.pass(3);
            x.restore();
            return x;
        }), answers(WaveUpgrade::new)), "");
    }

    private static void savedStays() {
        check.sentence("Restores what was saved, which stays.");
        WaveUpgrade x = Check.cluster(CLUSTER);
        check.noState("nothing was saved", () -> x.restore());
        check.same("save() at 0", x.save(), 0);
        x.pass(4);
        check.same("restore()", x.restore(), 0);
        x.pass(6);
        check.same("restore() again", x.restore(), 0);
        x.pass(7);
        check.same("save() at 7, in place", x.save(), 7);
        x.pass(8);
        x.undo();
        x.undo();
        check.same("undo leaves it", x.setting(11), 0);
        check.same("restore() of the later one", x.restore(), 7);
        x.readText();
        check.same("readText() leaves it", x.restore(), 7);
        check.same("members", x.setting(2), 3);
        Check.errorOf(x, "wave", false);
        check.same("a text with an error leaves it", x.restore(), 7);
        x.start(1);
        x.pass(1);
        check.same("save() of one that is down", x.save(), 8);
        x.pass(2);
        check.same("it is up", x.member(0, 1), 1);
        x.restore();
        check.same("it is down", x.member(0, 3), 10);
        x.pass(2);
        x.restore();
        check.same("it is down again", x.down(0), 1);
    }

    private static void notSaved() {
        check.sentence("Saves all but the buffer, the error, the report, what can be undone and what is saved,");
        WaveUpgrade x = Check.cluster(CLUSTER);
        x.pass(1);
        x.pass(1);
        Check.errorOf(x, "pass;", true);
        Check.put(x, "pass 3;");
        x.writeReport();
        x.save();
        check.same("what can be undone stays", x.undo(), 1);
        x.hold(0, true);
        x.writeReport();
        x.truncate(0);
        Check.errorOf(x, "soak 100;", false);
        Check.put(x, "pass 14;");
        check.same("restore()", x.restore(), 2);
        check.same("the report is the later one", x.reportByte(3), '!');
        check.same("the error is the later one", x.errorCode(), 2);
        check.same("its position", x.errorPosition(), 5);
        check.same("the buffer is the later one", x.runScript(), 1);
        check.same("the clock", x.setting(11), 16);
    }

    private static void readTextReplaces() {
        check.sentence("which replaces all that there is but the saved cluster and the latest report (the clock is 0, there is no plan and"
                + " no event), and empties the buffer, also if the text has an error.");
        for (String text : new String[] {"", "place p;", CLUSTER}) {
            List<String> due = Whole.everything(() -> {
                WaveUpgrade x = new WaveUpgrade();
                Check.errorOf(x, "place", false);
                Check.errorOf(x, text, false);
                return x;
            });
            check.sameText("read in place of another one: <" + text + ">", Whole.difference(Whole.everything(() -> {
                WaveUpgrade x = busy();
                x.truncate(0);
                Check.errorOf(x, text, false);
                return x;
            }), due), "");
        }
        WaveUpgrade x = busy();
        x.save();
        int length = x.writeReport();
        check.same("readText()", x.readText(), 0);
        check.same("the report", x.reportByte(length - 1), 10);
        check.same("the saved cluster", x.restore(), 1);
    }
}
