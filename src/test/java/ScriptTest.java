/** Promises 5, 6 and 7, and section 7: scripts, their errors, and where they end. */
final class ScriptTest {
    private static final Check check = new Check("ScriptTest");
    private static final String CLUSTER = "version a 1 2;version b 1 3;version c 2 4;talks a b;talks b c;"
            + "place p;place q;member m p a;member n q a;member o q a held;wave p;wave q;takes 2;soak 3;";

    public static void main(String[] args) {
        errors();
        commands();
        ends();
        repeats();
        kept();
        readingAgain();
        check.end();
    }

    private static void error(String text, int code, int position) {
        WaveUpgrade x = Check.cluster(CLUSTER);
        x.pass(4);
        String due = code + "@" + (code == 0 ? -1 : position);
        check.sameText("runScript of <" + text + ">", Check.errorOf(x, text, true), due);
        check.same("the buffer behind <" + text + ">", x.feed(0, 0, 0, 0, 0), 20);
        if (code != 0) {
            check.same("the clock behind <" + text + ">", x.setting(11), 4);
            check.same("undo behind <" + text + ">", x.undo(), 0);
        }
    }

    private static void errors() {
        error("", 0, 0);
        error(" \n", 0, 0);
        error("pass 1;go;pass 1;", 0, 0);
        error("Pass 1;", 1, 0);
        error("wait 1;", 1, 0);
        error("pass;", 1, 4);
        error("pass 1", 1, 6);
        error("pass 1 2;", 1, 7);
        error("pass a;", 1, 5);
        error("pass 1000;", 1, 5);
        error("pass 999;pass 0;", 0, 0);
        error("stop 1;", 1, 5);
        error("start;", 1, 5);
        error("start 1;", 1, 6);
        error("start m;", 3, 6);
        error("start c;", 0, 0);
        error("hold a;", 3, 5);
        error("free x;", 3, 5);
        error("free m;", 0, 0);
        error("report x 1;", 3, 7);
        error("report m;", 1, 8);
        error("report m 999;report n 000;", 0, 0);
        error("change m;", 1, 8);
        error("change m m;", 3, 9);
        error("change a m;", 3, 7);
        error("commit 0;", 0, 0);
        error("commit 999;", 0, 0);
        error("commit a;", 1, 7);
        error(")", 1, 0);
        error(";", 1, 0);
        error("pass 1;)", 1, 7);
        error("place z;", 1, 0);
        nestedErrors();
        counts();
    }

    private static void nestedErrors() {
        error("repeat 0 ();", 2, 7);
        error("repeat 21 ();", 2, 7);
        error("repeat 1 ();repeat 20();", 0, 0);
        error("repeat ();", 1, 7);
        error("repeat 2 pass 1;", 1, 9);
        error("repeat 2 (", 1, 10);
        error("repeat 2 (pass 1;", 1, 17);
        error("repeat 2 (pass 1);", 1, 16);
        error("repeat 2 (pass 1;)", 1, 18);
        error("repeat 2 (pass 1;) pass 1;", 1, 19);
        error("repeat 2 (;);", 1, 10);
        error("repeat 2 (repeat 2 (pass 1;););", 0, 0);
        error("repeat 2 (repeat 2 (repeat 2 ();););", 4, 20);
        error("repeat 2 (repeat 2 (stop; repeat", 4, 26);
        error("repeat 2 (repeat 2 ();repeat 2 (););repeat 1();", 0, 0);
        error("repeat 2 (pass 1;));", 1, 18);
    }

    private static String times(String command, int count) {
        StringBuilder all = new StringBuilder();
        for (int k = 0; k < count; k++) {
            all.append(command);
        }
        return all.toString();
    }

    private static void counts() {
        error(times("pass 1;", 30), 0, 0);
        error(times("pass 1;", 30) + "pass 1;", 6, 210);
        error(times("pass 1;", 30) + "wait 1;", 1, 210);
        error("repeat 2 (" + times("pass 1;", 29) + ");", 0, 0);
        error("repeat 2 (" + times("pass 1;", 29) + ");go;", 6, 215);
        error("repeat 2 (" + times("pass 1;", 29) + "go;);", 6, 213);
        error(times("go;", 28) + "repeat 1(repeat 1(repeat 1();););", 4, 102);
        error(times("go;", 29) + "repeat 1(repeat 1(););", 6, 96);
    }

    private static void does(String script, int done, String report, int clock) {
        WaveUpgrade x = Check.cluster(CLUSTER);
        check.same("runScript of <" + script + ">", Check.script(x, script), done);
        check.same("code behind <" + script + ">", x.errorCode(), 0);
        check.sameText("report behind <" + script + ">", Check.reportOf(x).replace('\n', ','), report);
        check.same("clock behind <" + script + ">", x.setting(11), clock);
    }

    private static void commands() {
        does("", 0, "m a,n a,o a!,", 0);
        does("pass 7;", 1, "m a,n a,o a!,", 7);
        does("start b;pass 1;", 2, "m a>b,n a,o a!,", 1);
        does("start b;pass 3;", 2, "m b,n a,o a!,", 3);
        does("hold m;free o;", 2, "m a!,n a,o a,", 0);
        does("change m b;pass 1;", 2, "m a>b,n a,o a!,", 1);
        does("change m b;pass 2;", 2, "m b,n a,o a!,", 2);
        does("start b;stop;pass 9;", 3, "m a,n a,o a!,", 9);
        does("start b;stop;pass 9;go;pass 1;", 5, "m a>b,n a,o a!,", 10);
        WaveUpgrade x = Check.cluster(CLUSTER);
        check.same("report and commit", Check.script(x, "report n 70;commit 2;"), 2);
        check.same("measure", x.member(1, 4), 70);
        check.same("format", x.setting(5), 2);
    }

    private static void ends() {
        does("pass 1;stop;pass 1;", 1, "m a,n a,o a!,", 1);
        does("go;pass 1;", 0, "m a,n a,o a!,", 0);
        does("start b;start b;pass 1;", 1, "m a,n a,o a!,", 0);
        does("hold o;pass 1;", 0, "m a,n a,o a!,", 0);
        does("free n;pass 1;", 0, "m a,n a,o a!,", 0);
        does("change m c;pass 1;", 0, "m a,n a,o a!,", 0);
        does("change m b;report m 1;pass 1;", 1, "m a>b,n a,o a!,", 0);
        does("commit 0;pass 1;", 0, "m a,n a,o a!,", 0);
        does("commit 1;pass 1;", 0, "m a,n a,o a!,", 0);
        does("commit 3;pass 1;", 0, "m a,n a,o a!,", 0);
        does("commit 10;pass 1;", 0, "m a,n a,o a!,", 0);
        does("commit 2;commit 2;", 1, "m a,n a,o a!,", 0);
        does("pass 2;repeat 5 (pass 1;repeat 3 (pass 2;hold m;););pass 50;", 5, "m a!,n a,o a!,", 7);
        does("repeat 20 (pass 999;);pass 20;pass 1;", 21, "m a,n a,o a!,", 20000);
        does("repeat 20 (pass 999;);pass 21;pass 1;", 20, "m a,n a,o a!,", 19980);
        WaveUpgrade x = new WaveUpgrade();
        check.same("start without waves", Check.script(Check.cluster("version a 1 1;"), "start a;"), 0);
        check.same("a script without a cluster", Check.script(x, "pass 5;commit 9;stop;"), 2);
    }

    private static void repeats() {
        does("repeat 3 (pass 2;);pass 1;", 4, "m a,n a,o a!,", 7);
        does("repeat 2 (pass 1;repeat 3 (pass 10;);pass 100;);", 10, "m a,n a,o a!,", 262);
        does("repeat 20 (repeat 20 (););pass 1;", 1, "m a,n a,o a!,", 1);
        does("repeat 20 (repeat 20 (pass 1;););", 40, "m a,n a,o a!,", 40);
        does("repeat 20 (pass 1;pass 0;);pass 1;", 40, "m a,n a,o a!,", 20);
        does("repeat 2 (repeat 2 (pass 1;);repeat 3 (pass 5;););", 10, "m a,n a,o a!,", 34);
        does("repeat 1 (repeat 1 (pass 3;););", 1, "m a,n a,o a!,", 3);
    }

    private static void kept() {
        WaveUpgrade x = Check.cluster(CLUSTER);
        check.same("a script of three", Check.script(x, "start b;pass 2;hold n;"), 3);
        check.same("a script of none", Check.script(x, "go;"), 0);
        check.same("undo of the script of none", x.undo(), 1);
        check.same("clock as it was behind the first", x.setting(11), 2);
        check.same("undo of the script of three", x.undo(), 0);
        check.same("clock as it was", x.setting(11), 0);
        check.same("plan as it was", x.plan(0), 0);
        check.same("events as they were", x.events(), 0);
        check.same("no more to undo", x.undo(), -1);
    }

    /** Nothing of an earlier script, good or bad, is left when a next one is read. */
    private static void readingAgain() {
        WaveUpgrade x = Check.cluster(CLUSTER);
        check.same("a script", Check.script(x, "repeat 3 (pass 1;repeat 2 (pass 0;););pass 4;"), 10);
        check.same("a shorter one", Check.script(x, "pass 2;"), 1);
        check.sameText("one that ends too early", Check.errorOf(x, "pass 1;repeat 2 (repeat 2 (pass 1;", true), "1@34");
        check.same("one behind it", Check.script(x, "pass 2;repeat 2 (repeat 2 (pass 1;););"), 5);
        check.same("one that ends within a repeat", Check.script(x, "repeat 2 (repeat 2 (pass 1;go;););"), 1);
        check.same("one behind that", Check.script(x, "pass 1;repeat 2 (pass 1;);"), 3);
        check.same("an empty one", Check.script(x, ""), 0);
        check.same("the clock", x.setting(11), 19);
    }
}
