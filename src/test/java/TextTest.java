/** Promises 4, 6 and 7, and section 1: every error of a cluster's text, with its position. */
final class TextTest {
    private static final Check check = new Check("TextTest");
    private static final String VERSIONS = "version a 1 2;version b 1 3;version c 3 4;talks a b;";
    private static final String BASE = VERSIONS + "place p;place q;";

    public static void main(String[] args) {
        good();
        tokens();
        grammar();
        numbers();
        names();
        repetitions();
        versions();
        counts();
        replacing();
        readingAgain();
        check.end();
    }

    /** The error of what comes behind good statements; its position counts from there. */
    private static void error(String before, String text, int code, int position) {
        WaveUpgrade x = new WaveUpgrade();
        String due = code + "@" + (code == 0 ? -1 : before.length() + position);
        check.sameText("readText of <" + text + ">", Check.errorOf(x, before + text, false), due);
        check.same("the buffer behind <" + text + ">", x.feed(0, 0, 0, 0, 0), 20);
    }

    private static void good() {
        error("", "", 0, 0);
        error("", " \n ", 0, 0);
        error("", "version a1 2;", 0, 0);
        error("", " version\na\n1 2 ; ", 0, 0);
        error("", "soak 007;limit 000;skew 0;takes 01;down 12;format 9;", 0, 0);
        error("", "version version 1 9;place held;member held held version held;wave held;", 0, 0);
        error("", "version a 9 9;version abcdefgh 1 1;", 0, 0);
        error("", "place z;wave z;place azaz;", 0, 0);
        error("", "place p;wave p;place q;wave q;", 0, 0);
        error(BASE, "member a p a;member b q b;link b a;wave q p;soak 0;", 0, 0);
        error(BASE, "member a p a;takes 9;down 2;limit 3;soak 1;", 0, 0);
    }

    private static void tokens() {
        error("", "Version a 1 2;", 1, 0);
        error("", "version abcdefghi 1 2;", 1, 8);
        error("", "version a 0001 2;", 1, 10);
        error("", "version a 1 1000;", 1, 12);
        error("", "\tplace p;", 1, 0);
        error("", "place p;\r", 1, 8);
        error("", "place \u00e9;", 1, 6);
        error("", "place p;\0", 1, 8);
        error("", "place p,", 1, 7);
        error("", "place p_q;", 1, 7);
        error("", "soak -1;", 1, 5);
        error("", "place (p);", 1, 6);
        error("", "place p);", 1, 7);
    }

    private static void grammar() {
        error("", "foo;", 1, 0);
        error("", ";", 1, 0);
        error("", "place p;;", 1, 8);
        error("", "12;", 1, 0);
        error("", "(", 1, 0);
        error("", "place", 1, 5);
        error("", "place ", 1, 6);
        error("", "place p", 1, 7);
        error("", "place p \n", 1, 9);
        error("", "place 1;", 1, 6);
        error("", "place p q;", 1, 8);
        error("", "version a b 2;", 1, 10);
        error("", "version a 1;", 1, 11);
        error("", "version a 1 2 3;", 1, 14);
        error("", "soak;", 1, 4);
        error("", "soak a;", 1, 5);
        error("", "soak 1 2;", 1, 7);
        error(BASE, "talks a;", 1, 7);
        error(BASE, "talks a 1;", 1, 8);
        error(BASE, "member m p;", 1, 10);
        error(BASE, "member m p a hold;", 1, 13);
        error(BASE, "member m p a held held;", 1, 18);
        error(BASE, "member m p a 1;", 1, 13);
        error(BASE, "member m p a held", 1, 17);
        error(BASE, "wave;", 1, 4);
        error(BASE, "wave 1;", 1, 5);
        error(BASE, "wave p 1;", 1, 7);
        error(BASE, "wave p", 1, 6);
        error(BASE, "link;", 1, 4);
        error(BASE, "member m p a;link m;", 1, 19);
        error("", "repeat 2 (", 1, 0);
    }

    private static void numbers() {
        error("", "version a 0 2;", 2, 10);
        error("", "version a 10 2;", 2, 10);
        error("", "version a 1 0;", 2, 12);
        error("", "version a 1 10;", 2, 12);
        error("", "version a 2 1;", 2, 12);
        error("", "version a 2 2;", 0, 0);
        String[][] ranges = {{"format", "0", "1", "9", "10"}, {"skew", "", "0", "7", "8"}, {"down", "0", "1", "12", "13"},
            {"takes", "0", "1", "99", "100"}, {"soak", "", "0", "99", "100"}, {"limit", "", "0", "999", ""}};
        for (String[] range : ranges) {
            for (int k = 1; k < 5; k++) {
                boolean isGood = k == 2 || k == 3;
                if (!range[k].isEmpty()) {
                    error("", range[0] + " " + range[k] + ";", isGood ? 0 : 2, range[0].length() + 1);
                }
            }
        }
        error("", "limit 1000;", 1, 6);
    }

    private static void names() {
        error(VERSIONS, "version a 1 2;", 3, 8);
        error(BASE, "place q;", 3, 6);
        error(BASE, "place a;version p 1 2;member p p a;member a q a;", 0, 0);
        error(BASE, "member m p a;member m q a;", 3, 20);
        error(BASE, "member m a a;", 3, 9);
        error(BASE, "member m p p;", 3, 11);
        error(BASE, "talks p a;", 3, 6);
        error(BASE, "talks a p;", 3, 8);
        error(BASE, "talks a a;", 3, 8);
        error(BASE, "talks x a;", 3, 6);
        error(BASE, "wave a;", 3, 5);
        error(BASE, "wave p x;", 3, 7);
        error(BASE, "link m n;", 3, 5);
        error(BASE, "member m p a;link m n;", 3, 20);
        error(BASE, "member m p a;link m m;", 3, 20);
        error(BASE, "member m p a;member n p a;link m n;", 3, 33);
        error(BASE, "member m p a;member n q a;link n m;", 0, 0);
    }

    private static void repetitions() {
        for (String word : new String[] {"format", "skew", "down", "takes", "soak", "limit"}) {
            error("", word + " 1;place p;" + word + " 1;", 4, word.length() + 11);
            error("", word + " 1;place p;" + word + " x;", 4, word.length() + 11);
        }
        error(BASE + "member m p a;", "format 1;", 4, 0);
        error(BASE + "member m p a;", "skew 1;", 4, 0);
        error("skew 1;" + BASE + "member m p a;", "skew 1;", 4, 0);
        error(BASE + "member m p a;", "down 1;takes 1;soak 1;limit 1;", 0, 0);
        error(BASE, "format 1;skew 2;", 0, 0);
        error(VERSIONS, "talks a b;", 4, 8);
        error(VERSIONS, "talks b a;", 4, 8);
        error(VERSIONS, "talks b c;talks c a;talks c b;", 4, 28);
        String two = BASE + "member m p a;member n q b;link m n;";
        error(two, "link m n;", 4, 7);
        error(two, "link n m;", 4, 7);
        error(BASE, "wave p p;", 4, 7);
        error(BASE, "wave p;wave p;", 4, 12);
        error(BASE, "wave q p;wave p;", 4, 14);
    }

    private static void versions() {
        error("format 2;" + BASE, "member m p a;member n p c;", 5, 24);
        error("format 3;" + BASE, "member m p a;", 5, 11);
        error("format 3;" + BASE, "member m p b;member n q c;", 0, 0);
        error("format 3;" + BASE, "member m p b;member n p c;", 5, 24);
        error("format 3;" + BASE + "talks c b;", "member m p b;member n p c;", 0, 0);
        error("format 3;skew 0;" + BASE, "member m p b;member n q c;", 5, 24);
        error("skew 0;" + BASE, "member m p b;member n p a;", 5, 24);
        String far = "version a 1 1;version b 1 1;version c 1 1;place p;place q;";
        error(far, "member m p a;member n q b;member o q a;", 5, 37);
        error(far, "member m p a;member n q c;", 5, 24);
        error("skew 2;" + far, "member m p a;member n q c;", 0, 0);
        error("skew 2;" + far, "member m p a;member n q c;link m n;", 5, 33);
        error("skew 2;" + far + "talks a c;", "member m p a;member n q c;link m n;", 0, 0);
        error("skew 2;" + far, "member m p a;member n q c;talks a c;link m n;", 0, 0);
        error("skew 2;" + far, "member m p a;member n q c;link n m;talks a c;", 5, 33);
    }

    private static String times(String statement, int count) {
        StringBuilder all = new StringBuilder();
        for (int k = 0; k < count; k++) {
            all.append(statement.replace('#', (char) ('a' + k)));
        }
        return all.toString();
    }

    private static void counts() {
        error("", times("version # 1 1;", 8), 0, 0);
        error(times("version # 1 1;", 8), "version a 1 1;", 6, 0);
        error(times("version # 1 1;", 8), " version", 6, 1);
        error("", times("place #;", 5), 0, 0);
        error(times("place #;", 5), "place z;", 6, 0);
        String base = "version a 1 1;place p;place q;";
        error(base, times("member # p a;", 12), 0, 0);
        error(base + times("member # p a;", 12), "member m p a;", 6, 0);
        error(times("place #;", 5) + times("wave #;", 5), "", 0, 0);
        error(times("place #;", 5) + times("wave #;", 5), "wave a;", 6, 0);
        error(times("place #;", 5), "wave a b c d e;", 0, 0);
        error(times("place #;", 5), "wave a b c d e a;", 4, 15);
        String many = base + times("member # p a;", 6);
        for (int k = 0; k < 4; k++) {
            many += "member " + (char) ('m' + k) + " q a;";
        }
        String twenty = many;
        for (int k = 0; k < 20; k++) {
            twenty += "link " + (char) ('a' + k % 6) + " " + (char) ('m' + k / 6) + ";";
        }
        error(twenty, "", 0, 0);
        error(twenty, "link c p;", 6, 0);
        error(twenty, "link", 6, 0);
        check.same("setting(4) of twenty links", Check.cluster(twenty).setting(4), 20);
    }

    private static void replacing() {
        WaveUpgrade x = Check.cluster(BASE + "member m p a;member n q a held;wave p;soak 3;");
        x.start(1);
        x.pass(3);
        x.save();
        int report = x.writeReport();
        check.same("down before", x.down(0), 1);
        String due = Check.errorOf(x, "place p;place p;", false);
        check.sameText("a text with an error", due, "3@14");
        check.same("members behind an error", x.setting(2), 2);
        check.same("clock behind an error", x.setting(11), 3);
        check.same("plan behind an error", x.plan(0), 1);
        check.same("events behind an error", x.events(), 2);
        check.same("report behind an error", x.reportByte(0), 'm');
        check.same("undo behind an error", x.undo(), 1);
        Check.put(x, "place p;version a 3 3;format 3;member k p a;");
        check.same("readText", x.readText(), 1);
        check.same("code of a good text", x.errorCode(), 0);
        check.same("position of a good text", x.errorPosition(), -1);
        check.same("clock", x.setting(11), 0);
        check.same("plan", x.plan(0), 0);
        check.same("events", x.events(), 0);
        check.same("waves", x.setting(3), 0);
        check.same("soaking time", x.setting(9), 10);
        check.same("format", x.setting(5), 3);
        check.same("undo", x.undo(), -1);
        check.same("the last byte of the report stays", x.reportByte(report - 1), '\n');
        check.same("the saved cluster stays", x.restore(), 3);
        check.same("members restored", x.setting(2), 2);
        check.same("soaking time restored", x.setting(9), 3);
        Check.put(x, "");
        check.same("readText of nothing", x.readText(), 0);
        check.same("versions of nothing", x.setting(0), 0);
    }

    /** Nothing of an earlier text, good or bad, is left when a next one is read. */
    private static void readingAgain() {
        String text = "format 1;skew 2;down 2;takes 3;soak 4;limit 5;" + BASE
                + "member m p a held;member n q b;member o p a;link m n;wave p;wave q;";
        WaveUpgrade x = Check.cluster(text);
        check.sameText("the same text again", Check.errorOf(x, text, false), "0@-1");
        check.same("links", x.setting(4), 1);
        check.same("waves", x.setting(3), 2);
        check.same("inWave(0)", x.inWave(0), 5);
        check.sameText("it with an error behind", Check.errorOf(x, text + "format 1;", false), "4@" + text.length());
        String other = VERSIONS + "place u;member k u a;place v;member l v b;wave v;member m v b;wave u;";
        check.sameText("another text", Check.errorOf(x, other, false), "0@-1");
        int[] settings = {3, 2, 3, 2, 0, 1, 1, 1, 5, 10, 50, 0};
        for (int what = 0; what < settings.length; what++) {
            check.same("setting(" + what + ") then", x.setting(what), settings[what]);
        }
        int[] partners = {0, 4, 2};
        for (int k = 0; k < 3; k++) {
            check.same("partners(" + k + ") then", x.partners(k), partners[k]);
            check.same("held back then: " + k, x.member(k, 5), 0);
        }
        check.same("inWave(0) then", x.inWave(0), 6);
        check.same("inWave(1) then", x.inWave(1), 1);
        check.same("talkers(2) then", x.talkers(2), 4);
    }
}
