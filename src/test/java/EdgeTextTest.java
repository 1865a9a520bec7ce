/** The edges of promises 2 to 7 and of section 1, sentence by sentence; '^' marks where an error is due. */
final class EdgeTextTest {
    private static final Check check = new Check("EdgeTextTest");
    private static final String[] WORDS = {"version", "talks", "place", "member", "link", "wave", "format", "skew", "down",
        "takes", "soak", "limit", "held", "pass", "repeat"};
    /** Tokens that are invalid, or that may stand nowhere in a cluster. */
    private static final String[] NO_TOKENS = {"(", ")", "abcdefghi", "abcdefghijklmnopqrstuvwxyz", "0000", "0001", "1234",
        "4294967297", "18446744073709551617", "`", "{", "@", "[", "A", "Z", "/", ":", "<", "'", "*", "!", "-1", "+", ".", ",",
        "_", "\t", "\r", "\u000b", "\0", "\u001f", "\u007f", "\u0080", "\u008a", "\u00a0", "\u00e9", "\u00ff"};
    private static final String BASE = "version a 1 2;version b 1 3;version c 3 4;place p;place q;";
    private static final String TWO = BASE + "talks a b;member m p a;member n q b;";

    public static void main(String[] args) {
        feed();
        truncate();
        wholeBuffer();
        words();
        numbers();
        blanks();
        bytes();
        slots();
        names();
        keywords();
        versions();
        talks();
        places();
        members();
        links();
        waves();
        settings();
        onceEach();
        aheadOfMembers();
        versionOfMember();
        versionAmongMany();
        counts();
        order();
        endsTooEarly();
        errors();
        check.end();
    }

    // ---- expectations

    private static void good(String text) {
        WaveUpgrade x = new WaveUpgrade();
        check.sameText("readText of <" + text + ">", Check.errorOf(x, text, false), "0@-1");
        check.same("the buffer behind <" + text + ">", x.feed(0, 0, 0, 0, 0), 20);
    }

    private static void bad(int code, String marked) {
        WaveUpgrade x = new WaveUpgrade();
        int position = marked.indexOf('^');
        String text = marked.substring(0, position) + marked.substring(position + 1);
        check.sameText("readText of <" + text + ">", Check.errorOf(x, text, false), code + "@" + position);
        check.same("the buffer behind <" + text + ">", x.feed(0, 0, 0, 0, 0), 20);
        check.same("members behind <" + text + ">", x.setting(2), 0);
        check.same("versions behind <" + text + ">", x.setting(0), 0);
    }

    private static void setting(String text, int what, int due) {
        check.same("setting(" + what + ") of <" + text + ">", Check.cluster(text).setting(what), due);
    }

    private static String each(String statement, int from, int to) {
        StringBuilder all = new StringBuilder();
        for (int k = from; k < to; k++) {
            all.append(statement.replace('#', (char) ('a' + k)));
        }
        return all.toString();
    }

    // ---- the buffer

    private static void feed() {
        check.sentence("Appends 20 bytes to the buffer: the four bytes of each argument, the most significant byte first.");
        for (int at = 0; at < 20; at++) {
            String twenty = " ".repeat(at) + "\u00ff" + " ".repeat(19 - at);
            WaveUpgrade y = new WaveUpgrade();
            y.feed(Check.four(twenty, 0), Check.four(twenty, 4), Check.four(twenty, 8), Check.four(twenty, 12), Check.four(twenty, 16));
            check.noArgument("byte 255 at " + at, () -> y.readText());
            check.same("errorPosition of byte 255 at " + at, y.errorPosition(), at);
        }
        WaveUpgrade x = new WaveUpgrade();
        Check.put(x, "version hi 1 1;place g;");
        check.same("43 bytes", x.feed(0x6d656d62, 0x6572206a, 0x6b6c2067, 0x20686920, 0x68656c64), 43);
        check.same("63 bytes", x.feed(0x3b0a0a0a, 0x0a0a0a0a, 0x0a0a0a0a, 0x0a0a0a0a, 0x0a0a0a0a), 63);
        check.same("readText", x.readText(), 1);
        check.sameText("the report", Check.reportOf(x), "jkl hi!\n");
        check.sentence("Returns the number of bytes in the buffer.");
        check.same("feed behind readText", x.feed(-1, -1, -1, -1, -1), 20);
        check.same("feed again", x.feed(-1, -1, -1, -1, -1), 40);
        x.truncate(1);
        check.same("feed behind truncate(1)", x.feed(-1, -1, -1, -1, -1), 21);
        check.sentence("Throws `IllegalStateException` if it would exceed 900");
        int[][] lengths = {{879, 899}, {880, 900}, {881, -1}, {882, -1}, {899, -1}, {900, -1}};
        for (int[] each : lengths) {
            WaveUpgrade y = new WaveUpgrade();
            Check.put(y, " ".repeat(each[0] - 1) + ";");
            if (each[1] > 0) {
                check.same("feed at " + each[0], y.feed(0, 0, 0, 0, 0), each[1]);
            } else {
                check.noState("feed at " + each[0], () -> y.feed(0, 0, 0, 0, 0));
                check.same("the length is as it was", y.truncate(each[0]), each[0]);
                check.noArgument("and no longer", () -> y.truncate(each[0] + 1));
            }
            check.noArgument("readText at " + each[0], () -> y.readText());
            check.same("no byte ahead has changed", y.errorPosition(), each[0] - 1);
        }
    }

    private static void truncate() {
        check.sentence("Throws `IllegalArgumentException` if n is negative or greater than the present length");
        for (int length : new int[] {0, 1, 19, 20, 21, 899, 900}) {
            WaveUpgrade x = new WaveUpgrade();
            Check.put(x, " ".repeat(length));
            check.noArgument("truncate(-1) of " + length, () -> x.truncate(-1));
            check.noArgument("truncate(MIN_VALUE) of " + length, () -> x.truncate(Integer.MIN_VALUE));
            check.noArgument("truncate(MAX_VALUE) of " + length, () -> x.truncate(Integer.MAX_VALUE));
            check.noArgument("truncate of one more than " + length, () -> x.truncate(length + 1));
            check.same("truncate(" + length + ") of as many", x.truncate(length), length);
            if (length > 0) {
                check.same("truncate to one less than " + length, x.truncate(length - 1), length - 1);
                check.noArgument("truncate(" + length + ") then", () -> x.truncate(length));
            }
            check.same("truncate(0) of " + length, x.truncate(0), 0);
            check.noArgument("truncate(1) then", () -> x.truncate(1));
        }
        check.sentence("Truncates the buffer.");
        WaveUpgrade x = new WaveUpgrade();
        Check.put(x, "place p;place q;place p;");
        x.truncate(16);
        check.same("readText without what was cut off", x.readText(), 0);
        check.same("places", x.setting(1), 2);
        check.noArgument("what was read is no longer there", () -> x.truncate(1));
    }

    private static void wholeBuffer() {
        check.sentence("It is read from a buffer of at most 900 bytes.");
        String full = "place p;" + " ".repeat(884) + "place q;";
        good(full);
        setting(full, 1, 2);
        bad(1, "place p;" + "\n".repeat(885) + "place q^");
        bad(1, "place p;" + " ".repeat(891) + "^#");
        bad(1, "place p;" + " ".repeat(891) + "^(");
        bad(3, "place p;" + " ".repeat(885 - 1) + "place ^p;");
        bad(1, "^" + "a".repeat(900));
        bad(1, "^" + "7".repeat(900));
        bad(1, "soak ^" + "0".repeat(894) + "1");
        good(" ".repeat(900));
        good("\n".repeat(900));
        bad(1, "^" + ";".repeat(900));
        check.sentence("Reads the whole buffer as a cluster");
        check.same("an empty buffer", new WaveUpgrade().readText(), 0);
    }

    // ---- tokens

    private static void words() {
        check.sentence("A word is a maximal run of letters a to z, at most 8 of them.");
        good("version a 1 1;version z 1 1;place a;place z;");
        good("version abcdefgh 1 1;version bcdefgh 1 1;version abcdefg 1 1;talks abcdefgh bcdefgh;place abcdefgh;"
                + "member abcdefgh abcdefgh abcdefgh;place zzzzzzzz;member zzzzzzzz zzzzzzzz bcdefgh;"
                + "link abcdefgh zzzzzzzz;wave abcdefgh zzzzzzzz;");
        good("version aaaaaaaa 1 1;version aaaaaaab 1 1;version baaaaaaa 1 1;version aaaaaaa 1 1;version a 1 1;");
        bad(3, "place aaaaaaaa;place ^aaaaaaaa;");
        bad(1, "place ^aaaaaaaaa;");
        bad(1, "^versions a 1 1;");
        bad(1, "^versio a 1 1;");
        bad(1, "^v a 1 1;");
        bad(1, "^places p;");
        bad(1, "^placeplace p;");
        bad(1, "^Place p;");
        bad(1, BASE + "member m p a ^heldheld;");
        bad(1, BASE + "member m p a ^heldd;");
        bad(1, BASE + "member m p a ^hel;");
        bad(1, "place p^Q;");
        bad(1, "version a^\u00e9 1 1;");
    }

    private static void numbers() {
        check.sentence("A number N is a maximal run of digits, at most 3 of them.");
        setting("limit 999;", 10, 999);
        setting("limit 000;", 10, 0);
        setting("limit 09;", 10, 9);
        setting("limit 090;", 10, 90);
        setting("limit 0;soak 9;takes 09;down 009;", 9, 9);
        setting("format 001;", 5, 1);
        bad(1, "limit ^0000;");
        bad(1, "limit ^0999;");
        bad(1, "limit ^1000;");
        bad(1, "soak ^1000;");
        bad(1, "soak ^4294967296;");
        bad(1, "soak ^99999999999999999999999;");
        bad(1, "soak 1^/;");
        bad(1, "soak 1^:;");
        bad(1, "soak ^-1;");
        bad(1, "soak ^+1;");
        bad(1, "soak 1^.0;");
        check.sentence("The other tokens are the single characters ; ( and ).");
        bad(1, "place p^(;");
        bad(1, "place p^);");
        bad(1, "place p;^(");
        bad(1, "place p;^)");
        bad(1, "^()");
    }

    private static void blanks() {
        check.sentence("Spaces (byte 32) and line feeds (byte 10) may stand before, between and behind tokens.");
        good("version a1 9;");
        good("version a1 9;place p;member m p a;member n p a held;wave p;");
        good("\n \nversion\n a \n1  9\n;\n\nplace \n p ; member\nm\np\na\nheld\n;\nwave\np\n;limit\n7\n;\n");
        setting("soak7;limit8;", 10, 8);
        setting("soak7;limit8;", 9, 7);
        bad(2, "version a ^12;");
        bad(1, "^versiona 1 2;");
        bad(1, "version a 1 2 ^3;");
        check.sentence("Every other byte, a longer run of letters and a longer run of digits is an invalid token.");
        bad(1, "place^\tp;");
        bad(1, "place p;^\r\n");
        bad(1, "^\u00ef\u00bb\u00bfplace p;");
        bad(1, "^abcdefghi");
        bad(1, "^1234");
    }

    /** Each of the 256 bytes in the midst of a text, behind a word, behind a number and behind all. */
    private static void bytes() {
        for (int code = 0; code < 256; code++) {
            char sign = (char) code;
            boolean isBlank = sign == ' ' || sign == '\n';
            boolean isLetter = sign >= 'a' && sign <= 'z';
            boolean isDigit = sign >= '0' && sign <= '9';
            String name = "byte " + code + ": ";
            WaveUpgrade x = new WaveUpgrade();
            String due = isBlank || isLetter ? "0@-1" : sign == ';' ? "1@8" : "1@7";
            check.sameText(name + "behind a word", Check.errorOf(x, "place p" + sign + ";", false), due);
            due = isBlank || isDigit ? "0@-1" : sign == ';' ? "1@8" : "1@7";
            check.sameText(name + "behind a number", Check.errorOf(x, "limit 5" + sign + ";", false), due);
            due = isBlank ? "0@-1" : "1@8";
            check.sameText(name + "behind all", Check.errorOf(x, "place p;" + sign, false), due);
            due = isBlank ? "0@-1" : "1@0";
            check.sameText(name + "ahead of all", Check.errorOf(x, sign + " place p;", false), due);
        }
    }

    /** Each slot of each statement, with all that may not stand there. */
    private static void slots() {
        check.sentence("1: an invalid token, or a token that the grammar does not allow here.");
        String[] first = {"", "place z;", "version z 1 1;", "member o p a;", "member o p a held;", "wave p q;", "soak 1;",
            "talks a c;", "link m n;"};
        String[] name = {"version ", "talks ", "talks a ", "place ", "member ", "member o ", "member o p ", "link ", "link m ",
            "wave "};
        String[] number = {"version z ", "version z 1 ", "format ", "skew ", "down ", "takes ", "soak ", "limit "};
        String[] end = {"version z 1 1", "talks a c", "place z", "member o p a held", "link m n", "down 1", "takes 1", "soak 1",
            "limit 1"};
        for (String ahead : first) {
            slot(TWO + ahead, "1", ";", "foo", "held", "pass");
        }
        for (String ahead : name) {
            slot(TWO + ahead, "1", "99", ";");
        }
        for (String ahead : number) {
            slot((ahead.charAt(0) == 'f' || ahead.startsWith("sk") ? BASE : TWO) + ahead, ";", "foo", "held");
        }
        for (String ahead : end) {
            slot(TWO + ahead, " 1", " foo", " held", " place");
        }
        slot(BASE + "format 1", " 1", " foo");
        slot(BASE + "skew 1", " 1", " foo");
        slot(TWO + "member o p a", " 1", " foo", " hel", " p");
        slot(TWO + "wave p", " 1");
        slot(TWO + "wave p q", " 1");
    }

    /** None of these tokens, nor the end, may stand behind a text. */
    private static void slot(String ahead, String... wrong) {
        for (String token : wrong) {
            bad(1, ahead + (token.startsWith(" ") ? " ^" + token.substring(1) : "^" + token));
            bad(1, ahead + (token.startsWith(" ") ? " ^" + token.substring(1) : "^" + token) + " ;");
        }
        for (String token : NO_TOKENS) {
            // Where a word or a number ends, a further letter or digit would be of the same run.
            String blank = ahead.endsWith(" ") || ahead.endsWith(";") || ahead.isEmpty() ? "" : " ";
            bad(1, ahead + blank + "^" + token.charAt(0) + token.substring(1) + ";");
        }
        if (!ahead.endsWith(";")) {
            bad(1, ahead + "^");
            bad(1, ahead + " ^");
            bad(1, ahead + "\n \n^");
        }
    }

    // ---- names

    private static void names() {
        check.sentence("3: a name that another one of its sort has (behind \"version\", \"place\", \"member\"), or that none of its"
                + " sort has, where one must stand;");
        bad(3, "version a 1 1;version ^a 1 1;");
        bad(3, each("version # 1 1;", 0, 7) + "version ^a 1 1;");
        bad(3, each("version # 1 1;", 0, 7) + "version ^g 1 1;");
        bad(3, each("place #;", 0, 4) + "place ^a;");
        bad(3, each("place #;", 0, 4) + "place ^d;");
        bad(3, BASE + each("member # p a;", 0, 11) + "member ^a q a;");
        bad(3, BASE + each("member # p a;", 0, 11) + "member ^k q a;");
        good("version a 1 1;place a;member a a a;wave a;");
        bad(3, BASE + "member m ^a a;");
        bad(3, BASE + "member m ^m a;");
        bad(3, BASE + "member m p ^p;");
        bad(3, BASE + "member m p ^m;");
        bad(3, "version a 1 1;member m ^p a;");
        bad(3, "place p;member m p ^a;");
        bad(3, "place pp;wave ^p;");
        bad(3, "place p;wave ^pp;");
        bad(3, "talks ^a b;");
        bad(3, "version a 1 1;talks a ^b;version b 1 1;");
        bad(3, "version b 1 1;talks ^a b;version a 1 1;");
        bad(3, "wave ^p;place p;");
        bad(3, BASE + "member m p a;link ^n m;member n q a;");
        bad(3, BASE + "member m p a;link m ^n;member n q a;");
        bad(3, BASE + "link ^p q;");
        bad(3, BASE + "talks ^p q;");
        bad(3, TWO + "wave ^m;");
        bad(3, TWO + "wave p ^a;");
        check.sentence("the second name behind \"talks\" that is the same as the first one;");
        bad(3, BASE + "talks a ^a;");
        bad(3, BASE + "talks c ^c;");
        check.sentence("the second name behind \"link\" that is in the place of the first one.");
        bad(3, TWO + "link m ^m;");
        bad(3, TWO + "member o p a;link m ^o;");
        bad(3, TWO + "member o p a;link o ^m;");
        good(TWO + "member o p a;link o n;");
    }

    private static void keywords() {
        check.sentence("A NAME is any word (also \"held\", but not behind the third name of a \"member\").");
        for (String word : WORDS) {
            good("version " + word + " 1 1;version b 1 1;talks b " + word + ";place " + word + ";place b;member " + word + " "
                    + word + " " + word + ";member b b b;link " + word + " b;wave b " + word + ";");
        }
        WaveUpgrade x = Check.cluster("version held 1 1;version b 1 1;talks held b;place held;place q;member held held held;"
                + "member n q held held;link held n;wave held;wave q;");
        check.same("held is a version, and not held back", x.member(0, 5), 0);
        check.same("held back behind held", x.member(1, 5), 1);
        check.same("partners", x.partners(0), 2);
        check.same("wave", x.inWave(0), 1);
        bad(1, "version held 1 1;place p;member m p held held ^held;");
        bad(1, "version held 1 1;place p;member m p held ^b;");
        bad(3, "version a 1 1;place p;member m p ^held;");
    }

    // ---- statements

    private static void versions() {
        check.sentence("\"version\" defines a version with the lowest and the highest format of data that it reads (1 to 9 each, the"
                + " second one not less than the first one).");
        good("version a 1 1;version b 1 9;version c 9 9;version d 8 9;version e 5 5;version f 1 2;");
        bad(2, "version a ^0 0;");
        bad(2, "version a ^0 9;");
        bad(2, "version a ^10 10;");
        bad(2, "version a ^999 9;");
        bad(2, "version a 1 ^0;");
        bad(2, "version a 1 ^10;");
        bad(2, "version a 9 ^8;");
        bad(2, "version a 9 ^10;");
        bad(2, "version a 5 ^4;");
        bad(2, "version a 5 ^000;");
        good("version a 005 006;");
        check.sentence("Versions are numbered from 0 in the order in which they are defined, the oldest one first; at most 8.");
        WaveUpgrade x = Check.cluster(each("version # 1 1;", 0, 7) + "version h 9 9;");
        check.same("the eighth one", x.readers(9), 128);
        check.same("versions", x.setting(0), 8);
        check.same("the last number", x.talkers(7), 128);
        check.noIndex("no number 8", () -> x.talkers(8));
        setting("", 0, 0);
        setting("version a 1 1;", 0, 1);
        setting(each("version # 1 1;", 0, 7), 0, 7);
    }

    private static void talks() {
        check.sentence("\"talks\" tells that two different versions may talk with each other; a version may always talk with itself.");
        String all = each("version # 1 1;", 0, 8);
        for (int from = 0; from < 8; from++) {
            all += each("talks " + (char) ('a' + from) + " #;", from + 1, 8);
        }
        WaveUpgrade x = Check.cluster(all);
        for (int version = 0; version < 8; version++) {
            check.same("talkers(" + version + ") of all", x.talkers(version), 255);
        }
        WaveUpgrade y = Check.cluster(each("version # 1 1;", 0, 8) + "talks h a;");
        check.same("talkers(0)", y.talkers(0), 129);
        check.same("talkers(7)", y.talkers(7), 129);
        check.same("talkers(6): itself", y.talkers(6), 64);
        check.sentence("the second name behind \"talks\" or \"link\" if that was told already (in any order);");
        bad(4, BASE + "talks a b;talks a ^b;");
        bad(4, BASE + "talks a b;talks b ^a;");
        bad(4, BASE + "talks b c;talks a b;talks c ^b;");
        good(BASE + "talks a b;talks b c;talks c a;");
        bad(4, TWO + "link m n;link m ^n;");
        bad(4, TWO + "link m n;link n ^m;");
        bad(4, TWO + "link n m;link m ^n;");
        bad(4, TWO + "member o q a;link m o;link n m;link o ^m;");
        good(TWO + "member o q a;link m o;link n m;");
    }

    private static void places() {
        check.sentence("At most 5 places and 12 members, numbered from 0.");
        WaveUpgrade x = Check.cluster("version a 1 1;" + each("place #;", 0, 5) + "member m e a;member n a a;wave e;");
        check.same("places", x.setting(1), 5);
        check.same("the fifth place", x.member(0, 0), 4);
        check.same("the first place", x.member(1, 0), 0);
        check.same("its wave", x.member(0, 6), 0);
        check.same("no wave", x.member(1, 6), -1);
        check.same("nobody down", x.down(4), 0);
        check.noIndex("no place 5", () -> x.down(5));
        setting("place p;", 1, 1);
        setting(each("place #;", 0, 4), 1, 4);
    }

    private static void members() {
        WaveUpgrade x = Check.cluster("version a 1 1;place p;wave p;" + each("member # p a;", 0, 11) + "member l p a held;");
        check.same("members", x.setting(2), 12);
        check.same("the twelfth one", x.member(11, 5), 1);
        check.same("the eleventh one", x.member(10, 5), 0);
        check.sentence("Sets are bit masks in which bit k stands for number k.");
        check.same("all of them", x.with(0), 4095);
        check.same("in wave 0", x.inWave(0), 4095);
        check.same("partners of the twelfth one", x.partners(11), 2047);
        check.same("partners of the first one", x.partners(0), 4094);
        check.noIndex("no member 12", () -> x.partners(12));
        check.sentence("Returns the number of members.");
        check.same("readText of twelve", reread(x, "version a 1 1;place p;" + each("member # p a;", 0, 12)), 12);
        check.same("readText of eleven", reread(x, "version a 1 1;place p;" + each("member # p a;", 0, 11)), 11);
        check.same("readText of one", reread(x, "version a 1 1;place p;member m p a;"), 1);
        check.same("readText of none", reread(x, "version a 1 1;place p;"), 0);
        check.sentence("Two members are partners if they are in the same place, or if a \"link\" joins them.");
        WaveUpgrade y = Check.cluster(TWO + "member o q a;member k p a;link o m;");
        int[] due = {4 + 8, 4, 1 + 2, 1};
        for (int member = 0; member < 4; member++) {
            check.same("partners(" + member + ")", y.partners(member), due[member]);
        }
        check.same("one member alone", Check.cluster("version a 1 1;place p;member m p a;").partners(0), 0);
    }

    private static int reread(WaveUpgrade x, String text) {
        Check.put(x, text);
        return x.readText();
    }

    private static String crowd() {
        return "version a 1 1;place p;place q;" + each("member # p a;", 0, 6) + each("member # q a;", 6, 12);
    }

    /** Links of the first ones of a place with those of another one, as many as are asked for. */
    private static String links(int count) {
        StringBuilder all = new StringBuilder();
        for (int k = 0; k < count; k++) {
            all.append("link ").append((char) ('a' + k / 6)).append(' ').append((char) ('g' + k % 6)).append(';');
        }
        return all.toString();
    }

    private static void links() {
        check.sentence("\"link\" joins two members of different places.");
        setting(crowd(), 4, 0);
        setting(crowd() + links(1), 4, 1);
        setting(crowd() + links(19), 4, 19);
        setting(crowd() + links(20), 4, 20);
        WaveUpgrade x = Check.cluster(crowd() + links(20));
        check.same("partners of the one with two links", x.partners(3), 0b11_110111);
        check.same("partners of the one with six links", x.partners(2), 0b111111_111011);
        bad(6, crowd() + links(20) + "^link d k;");
        bad(6, crowd() + links(20) + "^link a g;");
        bad(6, crowd() + links(20) + "^link");
        good(crowd() + links(20) + "wave p q;");
        check.sentence("the second name behind \"link\" if the versions of both may not talk.");
        bad(5, "version a 1 1;version b 1 1;place p;place q;member m p a;member n q b;link m ^n;");
        bad(5, "version a 1 1;version b 1 1;place p;place q;member m p a;member n q b;link n ^m;talks a b;");
        good("version a 1 1;version b 1 1;place p;place q;member m p a;member n q b;talks a b;link n m;");
    }

    private static void waves() {
        check.sentence("\"wave\" defines a wave by its places; waves are numbered from 0, at most 5, and a place is in one of them at"
                + " most.");
        String five = "version a 1 1;" + each("place #;", 0, 5);
        WaveUpgrade x = Check.cluster(five + "member m e a;member n a a;" + each("wave #;", 0, 5));
        check.same("waves", x.setting(3), 5);
        check.same("wave 4", x.inWave(4), 1);
        check.same("wave 0", x.inWave(0), 2);
        check.same("wave 1", x.inWave(1), 0);
        check.noIndex("no wave 5", () -> x.inWave(5));
        WaveUpgrade y = Check.cluster(five + "member m e a;member n a a;wave c a e b d;");
        check.same("one wave of five places", y.inWave(0), 3);
        setting("place p;wave p;", 3, 1);
        setting(five, 3, 0);
        check.sentence("a place that is in a wave already (in this one, too).");
        bad(4, five + "wave a ^a;");
        bad(4, five + "wave a b c d e ^a;");
        bad(4, five + "wave a b c d e ^e;");
        bad(4, five + "wave a;wave ^a;");
        bad(4, five + "wave a b;wave c ^b;");
        bad(4, five + each("wave #;", 0, 4) + "wave ^d;");
        bad(6, five + each("wave #;", 0, 5) + "^wave a;");
        bad(6, five + each("wave #;", 0, 5) + "^wave");
        bad(1, five + "wave^;");
        bad(3, five + "wave a b c d e ^f;");
    }

    private static final String[] SETTINGS = {"format", "skew", "down", "takes", "soak", "limit"};
    private static final int[] LEAST = {1, 0, 1, 1, 0, 0};
    private static final int[] MOST = {9, 7, 12, 99, 99, 999};
    private static final int[] USUAL = {1, 1, 1, 5, 10, 50};

    private static void settings() {
        String[] sentences = {"\"format\" sets the format of the data (1 to 9; 1 without it)",
            "how far the numbers of the versions of any two members may be apart (0 to 7; 1)",
            "\"down\" sets how many members of a place may be down at a time (1 to 12; 1)",
            "\"takes\" for how many minutes a change takes a member down (1 to 99; 5)",
            "\"soak\" for how many minutes a wave soaks (0 to 99; 10)",
            "\"limit\" the limit of the mean measure (0 to 999; 50)"};
        for (int k = 0; k < 6; k++) {
            check.sentence(sentences[k]);
            int what = 5 + k;
            setting("", what, USUAL[k]);
            setting("place p;", what, USUAL[k]);
            setting(SETTINGS[k] + " " + LEAST[k] + ";", what, LEAST[k]);
            setting(SETTINGS[k] + " " + (LEAST[k] + 1) + ";", what, LEAST[k] + 1);
            setting(SETTINGS[k] + " " + (MOST[k] - 1) + ";", what, MOST[k] - 1);
            setting(SETTINGS[k] + " " + MOST[k] + ";", what, MOST[k]);
            check.sentence("2: a number out of its range.");
            if (LEAST[k] > 0) {
                bad(2, SETTINGS[k] + " ^" + (LEAST[k] - 1) + ";");
                bad(2, SETTINGS[k] + " ^00;");
            }
            if (MOST[k] < 999) {
                bad(2, SETTINGS[k] + " ^" + (MOST[k] + 1) + ";");
                bad(2, SETTINGS[k] + " ^999;");
            }
            bad(1, SETTINGS[k] + " ^1000;");
            bad(1, SETTINGS[k] + " ^0001;");
        }
    }

    private static void onceEach() {
        check.sentence("Each of these six may stand once.");
        good("format 1;skew 1;down 1;takes 5;soak 10;limit 50;");
        good("limit 50;soak 10;takes 5;down 1;skew 1;format 1;");
        check.sentence("4: the first word of a second \"format\", \"skew\", \"down\", \"takes\", \"soak\" or \"limit\";");
        for (int k = 0; k < 6; k++) {
            bad(4, SETTINGS[k] + " 1;^" + SETTINGS[k] + " 1;");
            bad(4, SETTINGS[k] + " 1;^" + SETTINGS[k]);
            bad(4, SETTINGS[k] + " 1;^" + SETTINGS[k] + " 1000;");
            bad(4, SETTINGS[k] + " " + USUAL[k] + ";place p;" + SETTINGS[(k + 1) % 6] + " 1;^" + SETTINGS[k] + " 2;");
            for (int other = 0; other < 6; other++) {
                if (other != k) {
                    good(SETTINGS[k] + " 1;" + SETTINGS[other] + " 1;");
                }
            }
        }
    }

    private static void aheadOfMembers() {
        check.sentence("of a \"format\" or \"skew\" behind a member;");
        String one = "version a 1 1;place p;member m p a;";
        bad(4, one + "^format 1;");
        bad(4, one + "^format 9;");
        bad(4, one + "^format");
        bad(4, one + "^skew 1;");
        bad(4, one + "^skew 8;");
        bad(4, "format 1;" + one + "^format 1;");
        bad(4, "skew 1;" + one + "place q;^skew 1;");
        bad(4, one + "member n p a;^skew 1;");
        check.sentence("these two stand ahead of all members.");
        good("version a 1 1;place p;format 1;skew 0;member m p a;");
        good("version a 1 1;place p;wave p;soak 1;skew 0;format 1;member m p a;");
        good(one + "down 1;takes 1;soak 1;limit 1;version b 1 1;talks a b;place q;wave q;member n q b;link m n;");
    }

    private static void versionOfMember() {
        check.sentence("5: the version of a member that does not read the format,");
        String place = "place p;place q;";
        bad(5, "version a 2 3;" + place + "member m p ^a;");
        good("format 2;version a 2 3;" + place + "member m p a;");
        good("format 3;version a 2 3;" + place + "member m p a;");
        bad(5, "format 4;version a 2 3;" + place + "member m p ^a;");
        bad(5, "format 1;version a 2 9;" + place + "member m p ^a held;");
        good("format 9;version a 1 9;" + place + "member m p a;");
        bad(5, "format 9;version a 1 8;" + place + "member m p ^a;");
        check.sentence("that is farther than the skew from that of another member,");
        String eight = each("version # 1 1;", 0, 8) + place;
        for (int skew = 0; skew <= 7; skew++) {
            String ahead = "skew " + skew + ";" + eight;
            good(ahead + "member m p a;member n q " + (char) ('a' + skew) + ";");
            good(ahead + "member m p h;member n q " + (char) ('h' - skew) + ";");
            if (skew < 7) {
                bad(5, ahead + "member m p a;member n q ^" + (char) ('b' + skew) + ";");
                bad(5, ahead + "member m p h;member n q ^" + (char) ('g' - skew) + ";");
            }
        }
        good(eight + "member m p a;member n q b;");
        bad(5, eight + "member m p a;member n q ^c;");
        bad(5, eight + "member m p b;member n q c;member o q ^a;");
        bad(5, eight + "member m p b;member n q a;member o q ^c;");
        good("skew 0;" + eight + "member m p h;");
        check.sentence("or that may not talk with that of another member of its place;");
        bad(5, eight + "member m p a;member n p ^b;");
        bad(5, eight + "member m p b;member n p ^a;");
        good(eight + "talks a b;member m p a;member n p b;");
        good(eight + "member m p a;member n q b;");
        bad(5, eight + "member m p a;member n q b;member o q ^a;");
        bad(5, eight + "member m p a;member n p ^b;talks a b;");
        good(eight + "member m p a;member n p a;");
        check.sentence("if several codes apply at one token, the lowest one.");
        bad(3, "version a 1 1;place p;member p p a;member ^p p a;");
        bad(3, "version p 1 1;place p;member p p p;member ^p p p;");
    }

    /** The other member that is wrong is not the latest one. */
    private static void versionAmongMany() {
        String ahead = "version a 1 1;version b 1 1;version c 1 1;talks a b;talks b c;place p;place q;place r;";
        check.sentence("5: the version of a member that does not read the format,");
        bad(5, "version a 1 1;version b 2 2;talks a b;place p;place q;member m p a;member n q ^b;");
        bad(5, "version a 1 1;version b 2 2;talks a b;place p;place q;member m p a;member n p ^b;");
        check.sentence("that is farther than the skew from that of another member,");
        bad(5, ahead + "member m p a;member n q b;member o r ^c;");
        bad(5, ahead + "member m p c;member n q b;member o r ^a;");
        bad(5, ahead + "member k p a;member l r b;member m q b;member n r b;member o q ^c;");
        good("skew 2;" + ahead + "member m p a;member n q b;member o r c;");
        check.sentence("or that may not talk with that of another member of its place;");
        bad(5, "skew 2;" + ahead + "member m p a;member n q b;member o p ^c;");
        bad(5, "skew 2;" + ahead + "member m p a;member n p b;member o p ^c;");
        bad(5, "skew 2;" + ahead + "member m p c;member n p b;member k q c;member o p ^a;");
        good("skew 2;" + ahead + "member m p a;member n q b;member o q c;");
    }

    private static void counts() {
        check.sentence("6: the first word of a 9th version, a 6th place, a 13th member, a 6th wave or a 21st link.");
        good(each("version # 1 1;", 0, 8));
        bad(6, each("version # 1 1;", 0, 8) + "^version i 1 1;");
        bad(6, each("version # 1 1;", 0, 8) + "^version a 1 1;");
        bad(6, each("version # 1 1;", 0, 8) + "^version 0");
        bad(6, each("version # 1 1;", 0, 8) + "^version");
        good(each("place #;", 0, 5));
        bad(6, each("place #;", 0, 5) + "^place f;");
        bad(6, each("place #;", 0, 5) + "^place a;");
        bad(6, each("place #;", 0, 5) + "^place (");
        String base = "version a 1 1;place p;";
        good(base + each("member # p a;", 0, 12));
        bad(6, base + each("member # p a;", 0, 12) + "^member m p a;");
        bad(6, base + each("member # p a;", 0, 12) + "^member a q b;");
        bad(6, base + each("member # p a;", 0, 12) + "^member");
        bad(1, base + each("member # p a;", 0, 12) + "^members m p a;");
    }

    private static void order() {
        check.sentence("Tokens are checked from left to right and the first error is reported; if several codes apply at one token,"
                + " the lowest one.");
        bad(2, "version a ^0 0;version a 1 1;");
        bad(3, "place p;place ^p;soak 100;");
        bad(2, "soak ^100;place p;place p;");
        bad(1, "soak ^1000;place p;place p;#");
        bad(3, "place p;place ^p#");
        bad(4, "soak 1;^soak #");
        bad(6, each("place #;", 0, 5) + "^place #");
        bad(3, BASE + "talks ^x x;");
        bad(3, BASE + "talks a b;talks a ^a;");
        bad(3, TWO + "link m n;link m ^m;");
        bad(3, TWO + "link m n;member o p a;link m ^o;");
        bad(3, "format 9;" + BASE + "member m p ^x;");
        bad(3, BASE + "member m ^x c;");
        bad(3, BASE + "wave p;wave ^x p;");
        bad(4, "version a 1 1;place p;skew 1;member m p a;^skew 8;");
        bad(1, BASE + "talks a b;talks a ^abcdefghi;");
        bad(1, "version a 1 ^1000;");
        bad(1, "version a 5 ^0004;");
    }

    private static void endsTooEarly() {
        check.sentence("the index of the first byte of a token, or the length of the text if it ends too early.");
        String[] texts = {"version a 1 1", "version a 1", "version a", "version", "talks", "place", "place p", "member", "link",
            "wave", "format", "format 1", "skew", "skew 1", "down", "down 1", "takes", "takes 1", "soak", "soak 1", "limit", "limit 1"};
        for (String text : texts) {
            for (String blank : new String[] {"", " ", "\n", "  \n "}) {
                bad(1, text + blank + "^");
                bad(1, "place z; " + text + blank + "^");
            }
        }
        String[] more = {"talks a", "talks a c", "member o", "member o p", "member o p a", "member o p a held", "link m",
            "link m n", "wave p", "wave p q"};
        for (String text : more) {
            for (String blank : new String[] {"", " ", "\n", "  \n "}) {
                bad(1, TWO + text + blank + "^");
            }
        }
        String last = "place p;" + " ".repeat(885) + "wave p";
        bad(1, last + " ^");
        bad(1, "place p;" + " ".repeat(886) + "wave p^");
    }

    private static void errors() {
        check.sentence("0 if there was none or no such call.");
        WaveUpgrade x = new WaveUpgrade();
        error(x, 0, -1);
        x.feed(0x3b3b3b3b, 0, 0, 0, 0);
        error(x, 0, -1);
        x.truncate(1);
        error(x, 0, -1);
        check.sentence("Returns the code of the error of the latest readText() or runScript();");
        check.noArgument("readText of a semicolon", () -> x.readText());
        error(x, 1, 0);
        x.pass(1);
        x.save();
        x.restore();
        x.undo();
        check.noState("a call that throws", () -> x.stop());
        error(x, 1, 0);
        check.same("runScript of nothing", x.runScript(), 0);
        error(x, 0, -1);
        Check.errorOf(x, "pass 1;pass x;", true);
        error(x, 1, 12);
        check.same("readText of nothing", x.readText(), 0);
        error(x, 0, -1);
        Check.errorOf(x, "soak 100;", false);
        error(x, 2, 5);
        Check.errorOf(x, "place p;place p;", false);
        error(x, 3, 14);
        Check.errorOf(x, "stop;", true);
        error(x, 0, -1);
    }

    private static void error(WaveUpgrade x, int code, int position) {
        check.same("errorCode()", x.errorCode(), code);
        check.same("errorPosition()", x.errorPosition(), position);
    }
}
