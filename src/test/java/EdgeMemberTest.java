/** The edges of promises 14 to 22 and 43 to 45 and of section 2: members and the reasons against a change. */
final class EdgeMemberTest {
    private static final Check check = new Check("EdgeMemberTest");
    private static final String TWO = "version a 1 1;version b 1 1;talks a b;";

    public static void main(String[] args) {
        upAndDown();
        measureOfMember();
        reasonsInOrder();
        reasonHeld();
        reasonDown();
        reasonFormat();
        reasonPlace();
        reasonSkew();
        reasonTalk();
        open();
        against();
        numbersOfMember();
        partners();
        with();
        downOfPlace();
        skewNow();
        mixed();
        hold();
        report();
        change();
        check.end();
    }

    private static String each(String statement, int from, int to) {
        StringBuilder all = new StringBuilder();
        for (int k = from; k < to; k++) {
            all.append(statement.replace('#', (char) ('a' + k)));
        }
        return all.toString();
    }

    /** Eight versions that may all talk with one another. */
    private static String eight() {
        String all = each("version # 1 1;", 0, 8);
        for (int from = 0; from < 8; from++) {
            all += each("talks " + (char) ('a' + from) + " #;", from + 1, 8);
        }
        return all;
    }

    private static void reasons(WaveUpgrade x, int member, int... due) {
        int open = 0;
        for (int version = 0; version < due.length; version++) {
            int v = version;
            check.same("reason(" + member + ", " + v + ")", x.reason(member, v), due[v]);
            open |= due[v] == 0 ? 1 << v : 0;
            if (due[v] != 0) {
                check.noState("change(" + member + ", " + v + ") for reason " + due[v], () -> x.change(member, v));
            }
        }
        check.same("open(" + member + ")", x.open(member), open);
    }

    private static void upAndDown() {
        check.sentence("Whoever begins a change at a minute is down from then on, and up again with the version behind as many minutes"
                + " as it takes.");
        for (int takes : new int[] {1, 2, 98, 99}) {
            WaveUpgrade x = Check.cluster(TWO + "place p;member m p a;takes " + takes + ";");
            x.pass(7);
            check.same("change, takes " + takes, x.change(0, 1), 7 + takes);
            numbers(x, 0, 0, 0, 1, 7 + takes, 0, 0, -1);
            check.same("down at once", x.down(0), 1);
            x.pass(takes - 1);
            numbers(x, 0, 0, 0, 1, 7 + takes, 0, 0, -1);
            check.same("down to the last", x.down(0), 1);
            x.pass(1);
            numbers(x, 0, 0, 1, -1, -1, 0, 0, -1);
            check.same("up", x.down(0), 0);
            check.same("two events", x.events(), 2);
            check.same("its end", x.event(0, 0), 7 + takes);
        }
        WaveUpgrade x = Check.cluster(TWO + "place p;member m p a;");
        x.change(0, 1);
        x.pass(999);
        check.same("up in a long passing", x.member(0, 1), 1);
        check.same("its end in a long passing", x.event(0, 0), 5);
    }

    private static void numbers(WaveUpgrade x, int member, int... due) {
        for (int what = 0; what < due.length; what++) {
            check.same("member(" + member + ", " + what + ")", x.member(member, what), due[what]);
        }
    }

    private static void measureOfMember() {
        check.sentence("Its measure (0 to 999) is 0 at first, and becomes 0 when a change ends.");
        WaveUpgrade x = Check.cluster(TWO + "place p;place q;member m p a;member n q a held;takes 2;");
        check.same("at first", x.member(0, 4), 0);
        check.same("at first, held back", x.member(1, 4), 0);
        x.report(0, 999);
        x.report(1, 3);
        x.change(0, 1);
        check.same("when a change begins", x.member(0, 4), 999);
        x.pass(1);
        check.same("while it is down", x.member(0, 4), 999);
        x.pass(1);
        check.same("when it ends", x.member(0, 4), 0);
        check.same("of another one", x.member(1, 4), 3);
        x.pass(1);
        check.same("behind it", x.report(0, 5), 0);
        x.pass(10);
        check.same("it stays", x.member(0, 4), 5);
        x.change(0, 0);
        x.pass(2);
        check.same("at the end of a change back", x.member(0, 4), 0);
    }

    /** Versions a to d, of which c does not read the format and d talks with none; m and n share a place, m and o a link. */
    private static final String ALL_REASONS = "version a 1 2;version b 1 2;version c 2 2;version d 1 2;talks a b;place p;place q;"
            + "member m p a;member n p a;member o q a held;link m o;";

    private static void reasonsInOrder() {
        check.sentence("A member may begin to change to a version if there is no reason against it; the lowest one is told:");
        check.sentence("Returns the lowest reason why a member may not begin to change to a version (section 2); 0 if there is none.");
        WaveUpgrade x = Check.cluster(ALL_REASONS);
        reasons(x, 0, 3, 0, 4, 6);
        reasons(x, 1, 3, 0, 4, 6);
        reasons(x, 2, 1, 1, 1, 1);
        x.change(0, 1);
        reasons(x, 0, 2, 2, 2, 2);
        reasons(x, 1, 3, 5, 4, 5);
        x.hold(0, true);
        reasons(x, 0, 1, 1, 1, 1);
        x.hold(0, false);
        reasons(x, 0, 2, 2, 2, 2);
        x.pass(5);
        reasons(x, 0, 0, 3, 4, 6);
        reasons(x, 1, 3, 0, 4, 6);
        x.commit(2);
        reasons(x, 0, 0, 3, 6, 6);
        WaveUpgrade y = Check.cluster("skew 3;" + ALL_REASONS);
        reasons(y, 0, 3, 0, 4, 7);
        y.change(0, 1);
        reasons(y, 1, 3, 5, 4, 5);
        WaveUpgrade z = Check.cluster(ALL_REASONS + "down 2;");
        z.change(0, 1);
        reasons(z, 1, 3, 0, 4, 6);
    }

    private static void reasonHeld() {
        check.sentence("1 it is held back;");
        WaveUpgrade x = Check.cluster(TWO + "place p;member m p a;member n p a held;");
        reasons(x, 0, 3, 0);
        reasons(x, 1, 1, 1);
        x.hold(0, true);
        reasons(x, 0, 1, 1);
        x.hold(1, false);
        reasons(x, 1, 3, 0);
    }

    private static void reasonDown() {
        check.sentence("2 it is down; 3 it has this version;");
        WaveUpgrade x = Check.cluster(TWO + "place p;member m p a;takes 1;");
        x.change(0, 1);
        reasons(x, 0, 2, 2);
        x.pass(1);
        reasons(x, 0, 0, 3);
        x.change(0, 0);
        reasons(x, 0, 2, 2);
        x.pass(1);
        reasons(x, 0, 3, 0);
    }

    private static void reasonFormat() {
        check.sentence("4 the version does not read the format;");
        WaveUpgrade x = Check.cluster("skew 7;version a 1 9;version b 2 3;version c 1 1;version d 3 9;talks a b;talks a c;talks a d;"
                + "place p;member m p a;");
        reasons(x, 0, 3, 4, 0, 4);
        x.commit(2);
        reasons(x, 0, 3, 0, 4, 4);
        x.commit(3);
        reasons(x, 0, 3, 0, 4, 0);
        x.commit(4);
        reasons(x, 0, 3, 4, 4, 0);
        x.commit(9);
        reasons(x, 0, 3, 4, 4, 0);
    }

    private static void reasonPlace() {
        check.sentence("5 as many members of its place are down as may be;");
        for (int most : new int[] {1, 2, 3, 11, 12}) {
            WaveUpgrade x = Check.cluster(TWO + "place p;" + each("member # p a;", 0, 12) + "down " + most + ";");
            for (int member = 0; member < 12; member++) {
                check.same("reason(" + member + ", 1) of " + most, x.reason(member, 1), member < most ? 0 : 5);
                if (member < most) {
                    x.change(member, 1);
                }
            }
            check.same("down(0) of " + most, x.down(0), (1 << most) - 1);
            x.pass(4);
            check.same("the last one ahead of the end", x.reason(11, 1), most == 12 ? 2 : 5);
            x.pass(1);
            check.same("the last one at the end", x.reason(11, 1), most == 12 ? 3 : 0);
        }
        WaveUpgrade x = Check.cluster(TWO + "place p;place q;member k p a;member l p a;member m q a;member n q a;link k m;");
        x.change(0, 1);
        reasons(x, 1, 3, 5);
        reasons(x, 2, 3, 0);
        reasons(x, 3, 3, 0);
        x.hold(0, true);
        reasons(x, 1, 3, 5);
    }

    private static void reasonSkew() {
        check.sentence("6 the version is farther than the skew from the coming version of another member;");
        String ahead = eight() + "place p;place q;";
        for (int skew = 0; skew <= 7; skew++) {
            WaveUpgrade x = Check.cluster("skew " + skew + ";" + ahead + "member m p a;member n q a;");
            WaveUpgrade y = Check.cluster("skew " + skew + ";" + ahead + "member m p h;member n q h;");
            for (int version = 1; version < 8; version++) {
                check.same("up by " + version + ", skew " + skew, x.reason(0, version), version <= skew ? 0 : 6);
                check.same("down by " + version + ", skew " + skew, y.reason(1, 7 - version), version <= skew ? 0 : 6);
            }
        }
        check.sentence("of another member;");
        reasons(Check.cluster("skew 0;" + ahead + "member m p a;"), 0, 3, 0, 0, 0, 0, 0, 0, 0);
        reasons(Check.cluster("skew 1;" + ahead + "member m p a;"), 0, 3, 0, 0, 0, 0, 0, 0, 0);
        WaveUpgrade x = Check.cluster("skew 1;" + ahead + "member m p a;member n q a;");
        reasons(x, 1, 3, 0, 6, 6, 6, 6, 6, 6);
        x.change(0, 1);
        reasons(x, 1, 3, 0, 0, 6, 6, 6, 6, 6);
        x.change(1, 2);
        x.pass(5);
        reasons(x, 0, 6, 3, 0, 0, 6, 6, 6, 6);
        x.change(1, 1);
        reasons(x, 0, 0, 3, 0, 6, 6, 6, 6, 6);
        WaveUpgrade y = Check.cluster("skew 2;" + ahead + "member l p c;member m p d;member n q e;");
        reasons(y, 1, 6, 6, 0, 3, 0, 6, 6, 6);
        reasons(y, 0, 6, 6, 3, 0, 0, 0, 6, 6);
        reasons(y, 2, 6, 0, 0, 0, 3, 6, 6, 6);
    }

    private static void reasonTalk() {
        check.sentence("7 it may not talk with the coming version of a partner.");
        String ahead = "skew 7;version a 1 1;version b 1 1;version c 1 1;talks a b;talks b c;place p;place q;";
        WaveUpgrade x = Check.cluster(ahead + "member m p a;member n p a;member o q a;");
        reasons(x, 0, 3, 0, 7);
        reasons(x, 2, 3, 0, 0);
        WaveUpgrade y = Check.cluster(ahead + "member m p a;member n q a;link m n;");
        reasons(y, 0, 3, 0, 7);
        y.change(1, 1);
        reasons(y, 0, 3, 0, 0);
        y.pass(5);
        y.change(0, 2);
        reasons(y, 1, 7, 3, 0);
        y.pass(5);
        reasons(y, 1, 7, 3, 0);
        y.change(0, 1);
        reasons(y, 1, 0, 3, 0);
        reasons(Check.cluster(ahead + "member m p a;"), 0, 3, 0, 0);
        WaveUpgrade z = Check.cluster(ahead + "member m p a;member n p b held;member o p b;");
        reasons(z, 0, 3, 0, 0);
        reasons(z, 2, 0, 3, 7);
    }

    private static void open() {
        check.sentence("Returns the versions to which a member may begin to change, as a set.");
        WaveUpgrade x = Check.cluster("skew 7;" + eight() + "place p;member m p d;member n p d held;");
        check.same("all but its own", x.open(0), 0b11110111);
        check.same("held back", x.open(1), 0);
        x.change(0, 7);
        check.same("down", x.open(0), 0);
        x.pass(5);
        check.same("all but the last", x.open(0), 0b01111111);
        check.same("one version alone", Check.cluster("version a 1 1;place p;member m p a;").open(0), 0);
    }

    private static void against() {
        check.sentence("Returns the members for whose coming versions there would be a reason 7 against a member's change to a version,"
                + " as a set (whatever other reasons there are).");
        WaveUpgrade x = Check.cluster("version a 1 1;version b 2 2;place p;" + each("member # p a;", 0, 12));
        check.same("all partners", x.against(0, 1), 4094);
        check.same("all partners of the last one", x.against(11, 1), 2047);
        check.same("its own version", x.against(0, 0), 0);
        x.hold(0, true);
        check.same("though held back", x.against(0, 1), 4094);
        check.same("for one held back", x.against(1, 1), 4093);
        check.noIndex("against(12, 0)", () -> x.against(12, 0));
        check.noIndex("against(11, 2)", () -> x.against(11, 2));
        WaveUpgrade y = Check.cluster("skew 7;version a 1 1;version b 1 1;version c 1 1;talks a b;talks b c;place p;place q;place r;"
                + "member k p a;member l p a;member m q b;member n q a;member o r a;link k m;link k n;");
        check.same("of its place and by links", y.against(0, 2), 2 + 8);
        check.same("none of another place", y.against(4, 2), 0);
        y.change(1, 1);
        check.same("what comes counts", y.against(0, 2), 8);
        check.same("what was does not", y.against(0, 1), 0);
        check.same("though it is down", y.against(1, 2), 1);
        y.pass(5);
        check.same("then", y.against(1, 2), 1);
    }

    private static void numbersOfMember() {
        check.sentence("0 its place, 1 its version (while it is down the one that it had), 2 the next version (NONE if it is up), 3 the"
                + " minute at which it is up again (NONE if it is up), 4 its measure, 5 1 if it is held back, otherwise 0, 6 the wave of"
                + " its place (NONE without one)");
        WaveUpgrade x = Check.cluster(TWO + each("place #;", 0, 5) + each("wave #;", 1, 5) + "member k a a;member l e b held;"
                + "member m b b;");
        numbers(x, 0, 0, 0, -1, -1, 0, 0, -1);
        numbers(x, 1, 4, 1, -1, -1, 0, 1, 3);
        numbers(x, 2, 1, 1, -1, -1, 0, 0, 0);
        x.change(2, 0);
        numbers(x, 2, 1, 1, 0, 5, 0, 0, 0);
        x.pass(5);
        numbers(x, 2, 1, 0, -1, -1, 0, 0, 0);
        check.noIndex("member(3, 0)", () -> x.member(3, 0));
        check.noArgument("member(2, 7)", () -> x.member(2, 7));
        check.noArgument("member(2, -1)", () -> x.member(2, -1));
        check.noIndex("member(3, 7)", () -> x.member(3, 7));
        check.noIndex("member(-1, -1)", () -> x.member(-1, -1));
        check.noIndex("member(0, 0) of a new object", () -> new WaveUpgrade().member(0, 0));
    }

    private static void partners() {
        check.sentence("Returns the partners of a member, as a set.");
        WaveUpgrade x = Check.cluster(TWO + "place p;place q;place r;member k p a;member l p a;member m q a;member n r a;link l m;link n m;");
        int[] due = {2, 1 + 4, 2 + 8, 4};
        for (int member = 0; member < 4; member++) {
            check.same("partners(" + member + ")", x.partners(member), due[member]);
        }
        check.noIndex("partners(4)", () -> x.partners(4));
        check.same("none", Check.cluster(TWO + "place p;member k p a;").partners(0), 0);
    }

    private static void with() {
        check.sentence("Returns the members that are up with a version, as a set.");
        WaveUpgrade x = Check.cluster(TWO + "place p;place q;" + each("member # p a;", 0, 6) + each("member # q b held;", 6, 12));
        check.same("with(0)", x.with(0), 63);
        check.same("with(1)", x.with(1), 4032);
        x.change(5, 1);
        check.same("with(0), one down", x.with(0), 31);
        check.same("with(1), one down", x.with(1), 4032);
        x.pass(5);
        check.same("with(0), one up again", x.with(0), 31);
        check.same("with(1), one up again", x.with(1), 4064);
        check.noIndex("with(2)", () -> x.with(2));
        check.noIndex("with(-1)", () -> x.with(-1));
        check.same("none with it", Check.cluster(TWO).with(1), 0);
        check.noIndex("with(0) of a new object", () -> new WaveUpgrade().with(0));
    }

    private static void downOfPlace() {
        check.sentence("Returns the members of a place that are down, as a set.");
        WaveUpgrade x = Check.cluster(TWO + each("place #;", 0, 5) + each("member # a a;", 0, 6) + each("member # e a;", 6, 12)
                + "down 12;");
        for (int member = 0; member < 12; member += 2) {
            x.change(member, 1);
        }
        check.same("down(0)", x.down(0), 0b010101);
        check.same("down(1)", x.down(1), 0);
        check.same("down(4)", x.down(4), 0b010101_000000);
        check.noIndex("down(5)", () -> x.down(5));
        check.noIndex("down(-1)", () -> x.down(-1));
        x.pass(5);
        check.same("down(0) then", x.down(0), 0);
        check.same("down(4) then", x.down(4), 0);
    }

    private static void skewNow() {
        check.sentence("Returns how far the highest coming version is from the lowest one; 0 without members.");
        check.same("of a new object", new WaveUpgrade().skewNow(), 0);
        check.same("without members", Check.cluster(eight()).skewNow(), 0);
        check.same("of one member", Check.cluster(eight() + "place p;member m p h;").skewNow(), 0);
        check.same("of two alike", Check.cluster(eight() + "place p;member m p h;member n p h;").skewNow(), 0);
        WaveUpgrade x = Check.cluster("skew 7;" + eight() + "place p;place q;member m p a;member n q h;");
        check.same("of the first and the last", x.skewNow(), 7);
        x.change(1, 6);
        check.same("what comes counts", x.skewNow(), 6);
        x.change(0, 6);
        check.same("what comes counts", x.skewNow(), 0);
        x.pass(5);
        check.same("then", x.skewNow(), 0);
        x.change(0, 7);
        check.same("one above", x.skewNow(), 1);
    }

    private static void mixed() {
        check.sentence("Returns the number of pairs of partners that are both up with different versions.");
        check.same("of a new object", new WaveUpgrade().mixed(), 0);
        check.same("of one member", Check.cluster(TWO + "place p;member m p a;").mixed(), 0);
        check.same("of two alike", Check.cluster(TWO + "place p;member m p a;member n p a;").mixed(), 0);
        check.same("of two", Check.cluster(TWO + "place p;member m p a;member n p b;").mixed(), 1);
        check.same("of two that are no partners", Check.cluster(TWO + "place p;place q;member m p a;member n q b;").mixed(), 0);
        check.same("of a link", Check.cluster(TWO + "place p;place q;member m p a;member n q b;link m n;").mixed(), 1);
        WaveUpgrade x = Check.cluster(TWO + "place p;" + each("member # p a;", 0, 6) + each("member # p b held;", 6, 12));
        check.same("of six and six", x.mixed(), 36);
        x.change(0, 1);
        check.same("with one down", x.mixed(), 30);
        x.pass(5);
        check.same("of five and seven", x.mixed(), 35);
        x.hold(11, false);
        x.change(11, 0);
        check.same("with another one down", x.mixed(), 30);
        WaveUpgrade y = Check.cluster("version a 1 1;version b 1 1;version c 1 1;skew 7;talks a b;talks b c;talks a c;place p;"
                + "member k p a;member l p b;member m p c;");
        check.same("of three different ones", y.mixed(), 3);
    }

    private static void hold() {
        check.sentence("Throws `IllegalStateException` if it is so already");
        WaveUpgrade x = Check.cluster(TWO + "place p;" + each("member # p a;", 0, 12));
        for (int member = 0; member < 12; member++) {
            int m = member;
            check.noState("hold(" + m + ", false) of one that is not", () -> x.hold(m, false));
            check.same("hold(" + m + ", true)", x.hold(m, true), m + 1);
            check.noState("hold(" + m + ", true) again", () -> x.hold(m, true));
        }
        for (int member = 11; member >= 0; member--) {
            check.same("hold(" + member + ", false)", x.hold(member, false), member);
        }
        check.noIndex("hold(12, false)", () -> x.hold(12, false));
        check.noIndex("hold(12, true)", () -> x.hold(12, true));
        check.noIndex("hold(-1, true)", () -> x.hold(-1, true));
        x.change(3, 1);
        check.same("hold of one that is down", x.hold(3, true), 1);
        x.pass(5);
        check.same("its change ends all the same", x.member(3, 1), 1);
        check.same("it is held back", x.member(3, 5), 1);
        check.same("no more", x.hold(3, false), 0);
    }

    private static void report() {
        check.sentence("Sets the measure of a member that is up.");
        WaveUpgrade x = Check.cluster(TWO + "place p;place q;member m p a;member n q a held;takes 1;");
        check.same("report(0, 999)", x.report(0, 999), 0);
        check.same("report(0, 0)", x.report(0, 0), 999);
        check.same("report(0, 1)", x.report(0, 1), 0);
        check.same("report(1, 998) of one held back", x.report(1, 998), 0);
        check.noArgument("report(0, 1000)", () -> x.report(0, 1000));
        check.noArgument("report(0, -1)", () -> x.report(0, -1));
        check.noIndex("report(2, 0)", () -> x.report(2, 0));
        check.noIndex("report(2, 1000)", () -> x.report(2, 1000));
        check.same("no event", x.events(), 0);
        check.sentence("Throws `IllegalStateException` if it is down");
        x.change(0, 1);
        check.noState("report(0, 0) when down", () -> x.report(0, 0));
        check.noState("report(0, 999) when down", () -> x.report(0, 999));
        check.noArgument("report(0, 1000) when down", () -> x.report(0, 1000));
        check.noArgument("report(0, -1) when down", () -> x.report(0, -1));
        check.same("report of another one", x.report(1, 7), 998);
        x.pass(1);
        check.same("report(0, 2) when up again", x.report(0, 2), 0);
    }

    private static void change() {
        check.sentence("Returns the minute at which it ends.");
        WaveUpgrade x = Check.cluster(TWO + "place p;member m p a;takes 99;");
        Check.script(x, "repeat 20 (pass 999;);pass 20;");
        check.same("at the clock 20000", x.change(0, 1), 20099);
        check.same("member(0, 3)", x.member(0, 3), 20099);
        check.noArgument("it can end no more", () -> x.pass(1));
        WaveUpgrade y = Check.cluster(TWO + "place p;member m p a;takes 1;");
        check.same("at the clock 0", y.change(0, 1), 1);
        check.sentence("Throws `IllegalStateException` if there is a reason against it");
        check.noState("again", () -> y.change(0, 1));
        check.noIndex("to no version", () -> y.change(0, 2));
        check.noIndex("of no member", () -> y.change(1, 0));
        check.noIndex("of no member to no version", () -> y.change(1, 2));
        y.pass(1);
        check.noState("to its own version", () -> y.change(0, 1));
        check.same("back", y.change(0, 0), 2);
        check.same("its event", y.event(0, 1), 0);
        check.same("its event's version", y.event(0, 3), 0);
    }
}
