/** The edges of promises 5 to 7 and of section 7, sentence by sentence; '^' marks where an error is due. */
final class EdgeScriptTest {
    private static final Check check = new Check("EdgeScriptTest");
    private static final String[] NO_TOKENS = {"abcdefghi", "abcdefghijklmnopqrstuvwxyz", "0000", "0001", "1234", "4294967297",
        "`", "{", "@", "[", "A", "Z", "/", ":", "<", "'", "*", "!", "-1", "+", ".", ",", "_", "\t", "\r", "\0", "\u001f", "\u007f",
        "\u0080", "\u008a", "\u00a0", "\u00ff"};
    /** Member n is held back; a and b talk, b and c talk; c does not read the format 1. */
    private static final String CLUSTER = "version a 1 2;version b 1 3;version c 2 4;talks a b;talks b c;place p;place q;"
            + "member m p a;member n q a held;member o q a;wave p;wave q;takes 2;soak 3;";

    public static void main(String[] args) {
        wholeBuffer();
        slots();
        numbers();
        names();
        nesting();
        manyCommands();
        bytes();
        order();
        likeMethods();
        endsAtException();
        endsWithinRepeat();
        fortyCommands();
        asAWhole();
        errorsOfScripts();
        check.end();
    }

    private static void good(String script) {
        WaveUpgrade x = Check.cluster(CLUSTER);
        check.sameText("runScript of <" + script + ">", Check.errorOf(x, script, true), "0@-1");
        check.same("the buffer behind <" + script + ">", x.feed(0, 0, 0, 0, 0), 20);
    }

    private static void bad(int code, String marked) {
        WaveUpgrade x = Check.cluster(CLUSTER);
        int position = marked.indexOf('^');
        String script = marked.substring(0, position) + marked.substring(position + 1);
        check.sameText("runScript of <" + script + ">", Check.errorOf(x, script, true), code + "@" + position);
        check.same("the buffer behind <" + script + ">", x.feed(0, 0, 0, 0, 0), 20);
        check.same("the clock behind <" + script + ">", x.setting(11), 0);
        check.same("events behind <" + script + ">", x.events(), 0);
        check.same("undo behind <" + script + ">", x.undo(), -1);
    }

    private static WaveUpgrade does(String script, int done, int clock) {
        WaveUpgrade x = Check.cluster(CLUSTER);
        return does(x, script, done, clock);
    }

    private static WaveUpgrade does(WaveUpgrade x, String script, int done, int clock) {
        check.same("runScript of <" + script + ">", Check.script(x, script), done);
        check.same("errorCode of <" + script + ">", x.errorCode(), 0);
        check.same("errorPosition of <" + script + ">", x.errorPosition(), -1);
        check.same("the clock behind <" + script + ">", x.setting(11), clock);
        return x;
    }

    private static void wholeBuffer() {
        check.sentence("Reads the whole buffer as a script, empties the buffer, also if the text has an error, and runs the script.");
        does("pass 1;" + " ".repeat(886) + "pass 2;", 2, 3);
        bad(1, "pass 1;" + " ".repeat(887) + "pass 2^");
        bad(1, "pass 1;" + " ".repeat(892) + "^#");
        does(" ".repeat(900), 0, 0);
        does("", 0, 0);
        does("\n", 0, 0);
        check.same("of a new object", new WaveUpgrade().runScript(), 0);
    }

    private static void slots() {
        check.sentence("1: an invalid token, or a token that the grammar does not allow here.");
        String[] first = {"", "pass 1;", "stop;", "go;", "start b;", "hold m;", "free n;", "report m 1;", "change m b;", "commit 2;",
            "repeat 2 ();", "repeat 2 (pass 1;);"};
        for (String ahead : first) {
            slot(ahead, "1", ";", "(", ")", "foo", "held", "place", "m");
        }
        String[] inside = {"repeat 2 (", "repeat 2 (pass 1;", "repeat 1(repeat 1(", "repeat 1(repeat 1();"};
        for (String ahead : inside) {
            slot(ahead, "1", ";", "(", "foo", "held", "m");
        }
        String[] name = {"start ", "hold ", "free ", "report ", "change ", "change m "};
        for (String ahead : name) {
            slot(ahead, "1", ";", "(", ")");
        }
        String[] number = {"pass ", "report m ", "commit ", "repeat "};
        for (String ahead : number) {
            slot(ahead, ";", "(", ")", "foo", "m", "pass");
        }
        String[] end = {"pass 1", "start b", "stop", "go", "hold m", "free n", "report m 1", "change m b", "commit 2",
            "repeat 2 ()", "repeat 1(pass 1", "repeat 1(stop", "repeat 1(repeat 1()"};
        for (String ahead : end) {
            slot(ahead, " 1", "(", ")", " foo", " pass", " m");
        }
        slot("repeat 2", " 1", ";", ")", " foo", " pass");
    }

    private static void slot(String ahead, String... wrong) {
        for (String token : wrong) {
            bad(1, ahead + (token.startsWith(" ") ? " ^" + token.substring(1) : "^" + token));
            bad(1, ahead + (token.startsWith(" ") ? " ^" + token.substring(1) : "^" + token) + " ;");
        }
        String blank = ahead.endsWith(" ") || ahead.endsWith(";") || ahead.isEmpty() ? "" : " ";
        for (String token : NO_TOKENS) {
            bad(1, ahead + blank + "^" + token + ";");
        }
        if (!ahead.isEmpty() && (!ahead.endsWith(";") || ahead.chars().filter(c -> c == '(').count()
                > ahead.chars().filter(c -> c == ')').count())) {
            bad(1, ahead + "^");
            bad(1, ahead + " ^");
            bad(1, ahead + "\n \n^");
        }
    }

    private static void numbers() {
        check.sentence("numbers are 0 to 999, of \"repeat\" 1 to 20.");
        does("pass 0;", 1, 0);
        does("pass 000;", 1, 0);
        does("pass 999;", 1, 999);
        bad(1, "pass ^1000;");
        bad(1, "pass ^0999;");
        check.same("report m 0", does("report m 5;report m 0;", 2, 0).member(0, 4), 0);
        check.same("report m 999", does("report m 999;", 1, 0).member(0, 4), 999);
        bad(1, "report m ^1000;");
        good("commit 0;");
        good("commit 1;");
        good("commit 999;");
        bad(1, "commit ^1000;");
        bad(2, "repeat ^0 (pass 1;);");
        bad(2, "repeat ^000 (pass 1;);");
        does("repeat 1 (pass 1;);", 1, 1);
        does("repeat 01 (pass 1;);", 1, 1);
        does("repeat 2 (pass 1;);", 2, 2);
        does("repeat 19 (pass 1;);", 19, 19);
        does("repeat 20 (pass 1;);", 20, 20);
        bad(2, "repeat ^21 (pass 1;);");
        bad(2, "repeat ^999 (pass 1;);");
        bad(1, "repeat ^1000 (pass 1;);");
        bad(2, "repeat 1 (repeat ^21 (););");
        bad(2, "repeat 1 (repeat ^0 (););");
        bad(2, "repeat ^0");
        bad(2, "repeat ^21;");
    }

    private static void names() {
        check.sentence("the names are those of a version behind \"start\", of a member, and of a member and a version behind"
                + " \"change\".");
        bad(3, "start ^m;");
        bad(3, "start ^p;");
        bad(3, "start ^d;");
        bad(3, "start ^aa;");
        bad(3, "hold ^a;");
        bad(3, "hold ^p;");
        bad(3, "hold ^mm;");
        bad(3, "free ^a;");
        bad(3, "report ^a 1;");
        bad(3, "change ^a b;");
        bad(3, "change m ^m;");
        bad(3, "change m ^p;");
        bad(3, "change ^x y;");
        bad(3, "pass 1;repeat 2 (hold ^x;);");
        WaveUpgrade x = new WaveUpgrade();
        check.sameText("no version in a new object", Check.errorOf(x, "start a;", true), "3@6");
        check.sameText("no member in a new object", Check.errorOf(x, "hold a;", true), "3@5");
        WaveUpgrade y = Check.cluster("version pass 1 1;version held 1 1;talks pass held;place p;member stop p pass;"
                + "member held p pass held;wave p;");
        does(y, "change stop held;hold stop;free held;report held 7;start held;pass 10;", 6, 10);
        check.sameText("names that are words of the grammar", Check.reportOf(y), "stop held!\nheld held\n");
    }

    private static void nesting() {
        check.sentence("4: the first word of a \"repeat\" within two others;");
        does("repeat 2 (pass 1;);", 2, 2);
        does("repeat 2 (repeat 2 (pass 1;););", 4, 4);
        bad(4, "repeat 2 (repeat 2 (^repeat 2 (pass 1;);););");
        bad(4, "repeat 2 (repeat 2 (^repeat");
        bad(4, "repeat 2 (repeat 2 (^repeat 0 ();););");
        bad(4, "repeat 2 (repeat 2 (^repeat 1000 ();););");
        bad(4, "repeat 2 (repeat 2 (pass 1;^repeat 2 ();););");
        bad(4, "repeat 2 (repeat 2 ();repeat 2 (stop;go;^repeat 2 ();););");
        bad(4, "repeat 2 ();repeat 2 (repeat 2 (^repeat 2 ();););");
        does("repeat 2 (repeat 2 (););repeat 2 (repeat 2 (pass 1;););repeat 2 (pass 10;);", 6, 24);
        does("repeat 2 (repeat 2 (pass 1;);repeat 2 (pass 10;););", 8, 44);
        does("repeat 1 (repeat 1 ();repeat 1 ();repeat 1 (pass 1;););", 1, 1);
        bad(1, "repeat 2 (pass 1;);^);");
        bad(1, "repeat 2 (repeat 2 (pass 1;););^)");
        bad(1, "repeat 2 (repeat 2 (pass 1;);)^");
    }

    private static void manyCommands() {
        check.sentence("6: the first word of a 31st command of the text (\"repeat\" counts as one, too).");
        does("pass 1;".repeat(29), 29, 29);
        does("pass 1;".repeat(30), 30, 30);
        bad(6, "pass 1;".repeat(30) + "^pass 1;");
        bad(6, "pass 1;".repeat(30) + "^stop");
        bad(6, "pass 1;".repeat(30) + "^pass x");
        bad(6, "pass 1;".repeat(30) + "^repeat 2 ();");
        bad(1, "pass 1;".repeat(30) + "^foo;");
        bad(1, "pass 1;".repeat(30) + "^;");
        does("repeat 1(" + "pass 1;".repeat(29) + ");", 29, 29);
        bad(6, "repeat 1(" + "pass 1;".repeat(29) + "^go;);");
        bad(6, "repeat 1(" + "pass 1;".repeat(29) + ");^go;");
        does("repeat 1(repeat 1(" + "pass 1;".repeat(28) + "););", 28, 28);
        bad(6, "repeat 1(repeat 1(" + "pass 1;".repeat(28) + "^go;););");
        bad(6, "repeat 1(repeat 1(" + "pass 1;".repeat(28) + "););^go;");
        does("repeat 1();".repeat(30), 0, 0);
        bad(6, "repeat 1();".repeat(30) + "^repeat 1();");
        bad(6, "repeat 1();".repeat(30) + "^pass 1;");
        does("pass 1;".repeat(29) + "repeat 1();", 29, 29);
        check.sentence("if several codes apply at one token, the lowest one.");
        bad(4, "pass 1;".repeat(28) + "repeat 1(repeat 1(^repeat 1();););");
        bad(6, "pass 1;".repeat(29) + "repeat 1(^repeat 1(););");
    }

    private static void bytes() {
        check.sentence("The tokens are those of a text;");
        for (int code = 0; code < 256; code++) {
            char sign = (char) code;
            boolean isBlank = sign == ' ' || sign == '\n';
            boolean isDigit = sign >= '0' && sign <= '9';
            String name = "byte " + code + ": ";
            WaveUpgrade x = new WaveUpgrade();
            String due = isBlank || isDigit ? "0@-1" : sign == ';' ? "1@7" : "1@6";
            check.sameText(name + "behind a number", Check.errorOf(x, "pass 5" + sign + ";", true), due);
            due = isBlank ? "0@-1" : "1@7";
            check.sameText(name + "behind all", Check.errorOf(x, "pass 5;" + sign, true), due);
            due = isBlank || sign == ')' ? "0@-1" : "1@10";
            String text = "repeat 2 (" + sign + (sign == ')' ? ";" : ");");
            check.sameText(name + "within a repeat", Check.errorOf(x, text, true), due);
        }
        does(" pass\n1 ;repeat2(pass3;)\n; ", 3, 7);
    }

    private static void order() {
        check.sentence("Tokens are checked from left to right and the first error is reported;");
        bad(1, "pass ^1000;hold x;");
        bad(3, "hold ^x;pass 1000;");
        bad(3, "report ^x 1000;");
        bad(1, "report m ^1000");
        bad(3, "change ^x x;");
        bad(2, "repeat ^21 (hold x;);");
        bad(2, "repeat ^21 hold x;");
        bad(3, "repeat 20 (hold ^x;;");
    }

    private static void likeMethods() {
        check.sentence("The commands are as the methods pass(), start(), stop(), go(), hold() with true or, with \"free\", false,"
                + " report(), change() and commit();");
        String[] scripts = {"pass 7;", "start b;pass 1;", "start b;pass 1;stop;pass 4;", "start b;stop;go;pass 2;", "hold m;",
            "free n;", "report o 70;", "change m b;pass 1;", "commit 2;", "start a;"};
        Whole.Call[][] calls = {{x -> x.pass(7)}, {x -> x.start(1), x -> x.pass(1)},
            {x -> x.start(1), x -> x.pass(1), x -> x.stop(), x -> x.pass(4)},
            {x -> x.start(1), x -> x.stop(), x -> x.go(), x -> x.pass(2)}, {x -> x.hold(0, true)}, {x -> x.hold(1, false)},
            {x -> x.report(2, 70)}, {x -> x.change(0, 1), x -> x.pass(1)}, {x -> x.commit(2)}, {x -> x.start(0)}};
        for (int i = 0; i < scripts.length; i++) {
            String script = scripts[i];
            Whole.Call[] each = calls[i];
            WaveUpgrade x = Check.cluster(CLUSTER);
            check.same("runScript of <" + script + ">", Check.script(x, script), each.length);
            // What can be undone is another number, so the states are compared as they are saved.
            check.sameText("behind <" + script + ">", Whole.difference(Whole.allButText(() -> saved(script)),
                    Whole.allButText(() -> saved(each))), "");
        }
    }

    private static WaveUpgrade saved(String script) {
        WaveUpgrade x = Check.cluster(CLUSTER);
        Check.script(x, script);
        x.save();
        x.restore();
        return x;
    }

    private static WaveUpgrade saved(Whole.Call... calls) {
        WaveUpgrade x = Check.cluster(CLUSTER);
        for (Whole.Call call : calls) {
            Whole.outcome(call, x);
        }
        x.save();
        x.restore();
        return x;
    }

    private static void endsAtException() {
        check.sentence("A script ends, also within a \"repeat\", at a command whose method would throw an exception; the commands"
                + " before stay done, and it is not counted.");
        does("pass 1;stop;pass 9;", 1, 1);
        does("stop;pass 9;", 0, 0);
        does("start b;stop;stop;pass 9;", 2, 0);
        does("start b;pass 50;stop;pass 9;", 2, 50);
        does("go;pass 9;", 0, 0);
        does("start b;go;pass 9;", 1, 0);
        does("start b;pass 4;go;pass 9;", 2, 4);
        does("start b;stop;go;go;pass 9;", 3, 0);
        does("start a;go;pass 9;", 1, 0);
        does("start b;start b;pass 9;", 1, 0);
        does("start b;pass 4;start b;pass 9;", 2, 4);
        does("start b;stop;start b;pass 9;", 4, 9);
        does("start a;start b;pass 9;", 3, 9);
        does("hold m;hold m;pass 9;", 1, 0);
        does("hold n;pass 9;", 0, 0);
        does("free n;free n;pass 9;", 1, 0);
        does("free m;pass 9;", 0, 0);
        does("change m b;report m 1;pass 9;", 1, 0);
        does("change m b;pass 2;report m 1;pass 9;", 4, 11);
        does("change m b;change m a;pass 9;", 1, 0);
        does("change m a;pass 9;", 0, 0);
        does("change n b;pass 9;", 0, 0);
        does("change m c;pass 9;", 0, 0);
        does("commit 0;pass 9;", 0, 0);
        does("commit 1;pass 9;", 0, 0);
        does("commit 3;pass 9;", 0, 0);
        does("commit 9;pass 9;", 0, 0);
        does("commit 10;pass 9;", 0, 0);
        does("commit 999;pass 9;", 0, 0);
        does("commit 2;commit 2;pass 9;", 1, 0);
        check.same("a higher format behind that", does("commit 2;commit 1;", 1, 0).setting(5), 2);
        WaveUpgrade x = Check.cluster(CLUSTER.replaceAll("wave .;", ""));
        does(x, "pass 1;start a;pass 9;", 1, 1);
        WaveUpgrade y = new WaveUpgrade();
        does(y, "commit 9;commit 10;", 1, 0);
        check.same("the format 9", y.setting(5), 9);
        check.sentence("or the clock would be greater than 20000");
        does("repeat 20 (pass 999;);pass 20;pass 0;pass 1;pass 0;", 22, 20000);
        does("repeat 20 (pass 999;);pass 21;pass 0;", 20, 19980);
    }

    private static void endsWithinRepeat() {
        check.sentence("the commands before stay done, and it is not counted.");
        does("repeat 3 (pass 1;hold m;pass 10;);pass 100;", 4, 12);
        does("repeat 3 (repeat 3 (pass 1;hold m;pass 10;);pass 100;);pass 500;", 4, 12);
        does("repeat 3 (pass 1;repeat 2 (pass 10;);hold m;);pass 500;", 7, 42);
        does("repeat 3 (hold m;free m;pass 1;);pass 100;", 10, 103);
        does("repeat 3 (stop;pass 1;);pass 100;", 0, 0);
        does("pass 5;repeat 3 (repeat 3 (stop;););pass 100;", 1, 5);
        WaveUpgrade x = does("repeat 5 (hold m;);", 1, 0);
        check.same("what was done stays done", x.member(0, 5), 1);
        does("repeat 20 (repeat 20 (););pass 1;", 1, 1);
        does("repeat 20 ();", 0, 0);
    }

    private static void fortyCommands() {
        check.sentence("It also ends early when 40 commands (\"repeat\" not counted) were done.");
        does("repeat 13 (pass 1;pass 1;pass 1;);", 39, 39);
        does("repeat 13 (pass 1;pass 1;pass 1;);pass 10;", 40, 49);
        does("repeat 13 (pass 1;pass 1;pass 1;);pass 10;pass 100;", 40, 49);
        does("repeat 20 (pass 1;pass 1;);", 40, 40);
        does("repeat 20 (pass 1;pass 1;);pass 100;", 40, 40);
        does("repeat 20 (pass 1;pass 1;);stop;", 40, 40);
        does("repeat 20 (pass 1;pass 10;pass 100;);", 40, 13 * 111 + 1);
        does("repeat 20 (repeat 20 (pass 1;););", 40, 40);
        does("repeat 3 (repeat 20 (pass 1;);pass 100;);", 40, 40 - 1 + 100);
        does("repeat 20 (repeat 1 (pass 1;);repeat 1 (pass 1;););pass 100;", 40, 40);
        does("repeat 20 (repeat 20 (pass 1;);stop;);", 20, 20);
        does("pass 1;".repeat(28) + "repeat 20 (pass 1;);", 40, 40);
        WaveUpgrade x = does("repeat 20 (pass 0;pass 1;);hold m;", 40, 20);
        check.same("the command behind is not done", x.member(0, 5), 0);
        check.same("as one call", x.undo(), 0);
        check.same("all of it undone", x.setting(11), 0);
    }

    private static void asAWhole() {
        check.sentence("each call of runScript() (as a whole, also if no command was done) that was done without an exception can be"
                + " undone");
        WaveUpgrade x = Check.cluster(CLUSTER);
        does(x, "pass 1;hold m;pass 1;", 3, 2);
        does(x, "", 0, 2);
        does(x, "stop;", 0, 2);
        does(x, "repeat 3 ();", 0, 2);
        Check.errorOf(x, "pass 1;foo;", true);
        check.same("undo", x.undo(), 3);
        check.same("undo", x.undo(), 2);
        check.same("undo", x.undo(), 1);
        check.same("the clock", x.setting(11), 2);
        check.same("undo", x.undo(), 0);
        check.same("the clock", x.setting(11), 0);
        check.same("nobody more is held back", x.member(0, 5), 0);
        check.same("no event", x.events(), 0);
        check.same("undo", x.undo(), -1);
        for (int k = 0; k < 7; k++) {
            does(x, "pass 1;pass 1;", 2, 2 * k + 2);
        }
        for (int k = 5; k >= 0; k--) {
            check.same("undo of one of seven", x.undo(), k);
        }
        check.same("the first one stays done", x.setting(11), 2);
        check.same("undo", x.undo(), -1);
    }

    private static void errorsOfScripts() {
        check.sentence("Returns the position of that error; NONE if there was none or no such call.");
        WaveUpgrade x = Check.cluster(CLUSTER);
        Check.errorOf(x, "pass 1000;", true);
        check.same("code", x.errorCode(), 1);
        check.same("position", x.errorPosition(), 5);
        x.pass(1);
        x.undo();
        x.save();
        x.restore();
        x.writeReport();
        check.noState("stop", () -> x.stop());
        x.feed(0x706c6163, 0, 0, 0, 0);
        x.truncate(0);
        check.same("code, as it was", x.errorCode(), 1);
        check.same("position, as it was", x.errorPosition(), 5);
        check.same("a good script", Check.script(x, "stop;"), 0);
        check.same("code", x.errorCode(), 0);
        check.same("position", x.errorPosition(), -1);
    }
}
