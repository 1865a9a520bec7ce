/** The edges of promises 1, 8 to 13, 29 to 31 and 46 and of section 5: settings, versions, ways and the format. */
final class EdgeVersionTest {
    private static final Check check = new Check("EdgeVersionTest");

    public static void main(String[] args) {
        newObject();
        settings();
        talking();
        readers();
        waysToItself();
        wayByReaders();
        wayByTalks();
        wayBySkew();
        shortestWay();
        whyNotCommit();
        commit();
        highestFormat();
        wayBack();
        check.end();
    }

    private static String each(String statement, int from, int to) {
        StringBuilder all = new StringBuilder();
        for (int k = from; k < to; k++) {
            all.append(statement.replace('#', (char) ('a' + k)).replace('+', (char) ('b' + k)));
        }
        return all.toString();
    }

    private static void way(WaveUpgrade x, int from, int to, int changes, int next) {
        check.same("wayOf(" + from + ", " + to + ")", x.wayOf(from, to), changes);
        check.same("nextOnWay(" + from + ", " + to + ")", x.nextOnWay(from, to), next);
    }

    private static void newObject() {
        check.sentence("Creates a cluster as if an empty text was read, with an empty buffer.");
        Whole.Maker read = () -> {
            WaveUpgrade x = Check.cluster("version a 1 1;place p;member m p a;wave p;soak 3;limit 4;");
            x.start(0);
            x.pass(3);
            x.truncate(0);
            x.readText();
            return x;
        };
        check.sameText("a new object", Whole.difference(Whole.everything(WaveUpgrade::new), Whole.everything(read)), "");
        int[] due = {0, 0, 0, 0, 0, 1, 1, 1, 5, 10, 50, 0};
        for (int what = 0; what < 12; what++) {
            check.same("setting(" + what + ")", new WaveUpgrade().setting(what), due[what]);
        }
        check.same("an empty buffer", new WaveUpgrade().feed(0, 0, 0, 0, 0), 20);
        check.noArgument("an empty buffer", () -> new WaveUpgrade().truncate(1));
        WaveUpgrade x = new WaveUpgrade();
        check.same("errorCode()", x.errorCode(), 0);
        check.same("errorPosition()", x.errorPosition(), -1);
        check.same("undo()", x.undo(), -1);
        check.noState("restore()", () -> x.restore());
        check.noIndex("reportByte(0)", () -> x.reportByte(0));
        check.noIndex("event(0, 0)", () -> x.event(0, 0));
        check.sentence("`NONE = -1`: There is no such value.");
        check.same("NONE", WaveUpgrade.NONE, -1);
        check.sentence("An object is used for at most 512 calls after it has been made;");
        for (int call = 7; call <= 511; call++) {
            check.same("call " + call, x.pass(39), 39 * (call - 6));
        }
        check.same("call 512", x.setting(11), 39 * 505);
    }

    private static void settings() {
        check.sentence("0 the versions, 1 the places, 2 the members, 3 the waves, 4 the links, 5 the format, 6 the skew, 7 how many"
                + " may be down, 8 how long a change takes, 9 the soaking time, 10 the limit, 11 the clock");
        String least = "format 1;skew 0;down 1;takes 1;soak 0;limit 0;";
        String most = "format 9;skew 7;down 12;takes 99;soak 99;limit 999;";
        int[][] due = {{1, 0, 1, 1, 0, 0}, {9, 7, 12, 99, 99, 999}};
        for (int k = 0; k < 2; k++) {
            WaveUpgrade x = Check.cluster(k == 0 ? least : most);
            for (int what = 0; what < 6; what++) {
                check.same("setting(" + (what + 5) + ")", x.setting(what + 5), due[k][what]);
            }
            check.noArgument("setting(-1)", () -> x.setting(-1));
            check.noArgument("setting(12)", () -> x.setting(12));
            check.same("setting(11)", x.setting(11), 0);
            x.pass(1);
            check.same("setting(11)", x.setting(11), 1);
        }
        WaveUpgrade y = Check.cluster(each("version # 1 1;", 0, 8) + each("place #;", 0, 5) + each("wave #;", 0, 5)
                + each("member # a a;", 0, 6) + each("member # b a;", 6, 12) + "link a g;link a h;");
        int[] counts = {8, 5, 12, 5, 2};
        for (int what = 0; what < 5; what++) {
            check.same("setting(" + what + ") of many", y.setting(what), counts[what]);
        }
    }

    private static void talking() {
        check.sentence("Returns whether two versions may talk.");
        WaveUpgrade x = Check.cluster(each("version # 1 1;", 0, 8) + "talks h a;talks c d;");
        for (int one = 0; one < 8; one++) {
            for (int other = 0; other < 8; other++) {
                boolean isTold = one + other == 7 && one * other == 0 || one + other == 5 && one * other == 6;
                check.same("mayTalk(" + one + ", " + other + ")", x.mayTalk(one, other), one == other || isTold);
            }
        }
        check.sentence("Returns the versions with which a version may talk (itself, too), as a set.");
        int[] due = {129, 2, 12, 12, 16, 32, 64, 129};
        for (int version = 0; version < 8; version++) {
            check.same("talkers(" + version + ")", x.talkers(version), due[version]);
        }
        check.noIndex("talkers(8)", () -> x.talkers(8));
        check.noIndex("talkers(-1)", () -> x.talkers(-1));
        check.noIndex("mayTalk(7, 8)", () -> x.mayTalk(7, 8) ? 1 : 0);
        check.noIndex("mayTalk(8, 7)", () -> x.mayTalk(8, 7) ? 1 : 0);
        check.noIndex("mayTalk(8, 8)", () -> x.mayTalk(8, 8) ? 1 : 0);
        check.noIndex("mayTalk(-1, -1)", () -> x.mayTalk(-1, -1) ? 1 : 0);
    }

    private static void readers() {
        check.sentence("Returns the versions that read a format (1 to 9), as a set.");
        WaveUpgrade x = Check.cluster("version a 1 1;version b 1 9;version c 9 9;version d 2 8;version e 3 4;version f 4 5;"
                + "version g 5 5;version h 8 9;");
        int[] due = {0, 0b11, 0b1010, 0b11010, 0b111010, 0b1101010, 0b1010, 0b1010, 0b10001010, 0b10000110};
        for (int format = 1; format <= 9; format++) {
            check.same("readers(" + format + ")", x.readers(format), due[format]);
        }
        check.noArgument("readers(0)", () -> x.readers(0));
        check.noArgument("readers(10)", () -> x.readers(10));
        check.same("readers(1) of none", new WaveUpgrade().readers(1), 0);
        check.same("readers(9) of none", new WaveUpgrade().readers(9), 0);
        check.noArgument("readers(0) of none", () -> new WaveUpgrade().readers(0));
        check.noArgument("readers(10) of none", () -> new WaveUpgrade().readers(10));
    }

    private static void waysToItself() {
        check.sentence("0 from a version to itself; NONE if there is none.");
        WaveUpgrade x = Check.cluster("skew 0;version a 1 1;version b 2 2;version c 1 1;talks a c;");
        for (int version = 0; version < 3; version++) {
            way(x, version, version, 0, -1);
        }
        way(x, 0, 2, -1, -1);
        check.sentence("NONE if there is none, or both are the same.");
        way(Check.cluster("version a 9 9;"), 0, 0, 0, -1);
        WaveUpgrade y = Check.cluster(each("version # 1 1;", 0, 8) + each("talks # +;", 0, 7));
        way(y, 7, 7, 0, -1);
        check.noIndex("wayOf(8, 8)", () -> y.wayOf(8, 8));
        check.noIndex("wayOf(7, 8)", () -> y.wayOf(7, 8));
        check.noIndex("wayOf(-1, 7)", () -> y.wayOf(-1, 7));
        check.noIndex("nextOnWay(8, 8)", () -> y.nextOnWay(8, 8));
        check.noIndex("nextOnWay(8, 7)", () -> y.nextOnWay(8, 7));
        check.noIndex("nextOnWay(7, -1)", () -> y.nextOnWay(7, -1));
    }

    private static void wayByReaders() {
        check.sentence("in which each but the first reads the format,");
        WaveUpgrade x = Check.cluster("version a 2 3;version b 1 2;version c 2 2;version d 1 3;talks a b;talks b c;talks c d;"
                + "talks a c;talks b d;");
        way(x, 0, 1, 1, 1);
        way(x, 1, 0, -1, -1);
        way(x, 2, 1, 1, 1);
        way(x, 2, 3, 1, 3);
        way(x, 1, 2, -1, -1);
        way(x, 1, 3, -1, -1);
        way(x, 0, 3, -1, -1);
        x.commit(2);
        way(x, 1, 3, 2, 2);
        way(x, 3, 0, 3, 2);
        way(x, 0, 3, 3, 1);
        way(x, 1, 0, 1, 0);
        x.commit(3);
        way(x, 1, 0, 1, 0);
        way(x, 2, 3, 1, 3);
        way(x, 0, 1, -1, -1);
        way(x, 0, 3, -1, -1);
        x.undo();
        way(x, 0, 3, 3, 1);
    }

    private static void wayByTalks() {
        check.sentence("may talk with the one before it,");
        WaveUpgrade x = Check.cluster(each("version # 1 1;", 0, 8) + each("talks # +;", 0, 7));
        way(x, 0, 7, 7, 1);
        way(x, 7, 0, 7, 6);
        way(x, 0, 6, 6, 1);
        way(x, 3, 4, 1, 4);
        way(x, 4, 3, 1, 3);
        WaveUpgrade y = Check.cluster(each("version # 1 1;", 0, 8) + each("talks # +;", 0, 3) + each("talks # +;", 4, 7));
        way(y, 0, 3, 3, 1);
        way(y, 3, 4, -1, -1);
        way(y, 4, 3, -1, -1);
        way(y, 0, 7, -1, -1);
        way(y, 7, 4, 3, 6);
    }

    private static void wayBySkew() {
        check.sentence("is not farther than the skew from the one before it;");
        for (int skew = 0; skew <= 7; skew++) {
            WaveUpgrade x = Check.cluster("skew " + skew + ";" + each("version # 1 1;", 0, 8) + each("talks a +;", 0, 7)
                    + each("talks h +;", 0, 6));
            for (int to = 1; to < 7; to++) {
                boolean isNear = to <= skew;
                check.same("wayOf(0, " + to + ") by " + skew, x.wayOf(0, to) == 1, isNear);
                check.same("nextOnWay(0, " + to + ") by " + skew, x.nextOnWay(0, to) == to, isNear);
                check.same("wayOf(" + to + ", 0) by " + skew, x.wayOf(to, 0) == 1, isNear);
            }
            check.same("wayOf(0, 7) by " + skew, x.wayOf(0, 7), skew == 7 ? 1 : skew >= 4 ? 2 : -1);
            check.same("nextOnWay(0, 7) by " + skew, x.nextOnWay(0, 7), skew == 7 ? 7 : skew >= 4 ? 7 - skew : -1);
        }
    }

    private static void shortestWay() {
        check.sentence("Returns the second version of the shortest way (of several shortest ways, the lowest such version);");
        String six = "skew 7;" + each("version # 1 1;", 0, 6);
        WaveUpgrade x = Check.cluster(six + "talks a b;talks a c;talks a d;talks b f;talks c f;talks d f;");
        way(x, 0, 5, 2, 1);
        way(x, 5, 0, 2, 1);
        way(x, 1, 2, 2, 0);
        way(x, 3, 1, 2, 0);
        WaveUpgrade y = Check.cluster(six + "talks a b;talks b c;talks c f;talks a e;talks e f;");
        way(y, 0, 5, 2, 4);
        way(y, 5, 0, 2, 4);
        way(y, 1, 5, 2, 2);
        way(y, 4, 2, 2, 5);
        way(y, 4, 1, 2, 0);
        way(y, 0, 3, -1, -1);
        way(y, 3, 0, -1, -1);
        WaveUpgrade z = Check.cluster(six + "talks a c;talks a d;talks c f;talks d f;talks b f;talks b a;");
        way(z, 0, 5, 2, 1);
    }

    private static final String TWO = "version a 1 3;version b 3 5;version c 1 9;talks a c;talks b c;place p;place q;";

    private static void whyNotCommit() {
        check.sentence("Reasons against it; the lowest one is told: 1 it is not greater than the present one; 2 the coming version"
                + " of a member does not read it. (0: none.)");
        WaveUpgrade x = Check.cluster("format 3;skew 7;" + TWO + "member m p a;member n q b;");
        int[] due = {1, 1, 1, 2, 2, 2, 2, 2, 2};
        for (int format = 1; format <= 9; format++) {
            check.same("whyNotCommit(" + format + ")", x.whyNotCommit(format), due[format - 1]);
        }
        x.change(0, 2);
        int[] then = {1, 1, 1, 0, 0, 2, 2, 2, 2};
        for (int format = 1; format <= 9; format++) {
            check.same("whyNotCommit(" + format + "): what comes counts", x.whyNotCommit(format), then[format - 1]);
        }
        x.commit(5);
        int[] last = {1, 1, 1, 1, 1, 2, 2, 2, 2};
        for (int format = 1; format <= 9; format++) {
            check.same("whyNotCommit(" + format + ") at last", x.whyNotCommit(format), last[format - 1]);
        }
        check.sentence("Returns the lowest reason why a format (1 to 9) cannot be committed (section 5); 0 if there is none.");
        WaveUpgrade y = new WaveUpgrade();
        check.same("whyNotCommit(1) without members", y.whyNotCommit(1), 1);
        for (int format = 2; format <= 9; format++) {
            check.same("whyNotCommit(" + format + ") without members", y.whyNotCommit(format), 0);
        }
        check.noArgument("whyNotCommit(0)", () -> y.whyNotCommit(0));
        check.noArgument("whyNotCommit(10)", () -> y.whyNotCommit(10));
        WaveUpgrade z = Check.cluster("skew 7;version a 1 5;version b 1 2;talks a b;place p;place q;place r;member l p a;"
                + "member m q a held;member n r a;");
        check.same("all three read it", z.whyNotCommit(5), 0);
        z.change(2, 1);
        check.same("the last one comes to read it no more", z.whyNotCommit(5), 2);
        check.same("it comes to read this", z.whyNotCommit(2), 0);
    }

    private static void commit() {
        check.sentence("To commit a format means that the data has it from then on.");
        WaveUpgrade x = new WaveUpgrade();
        for (int format = 2; format <= 9; format++) {
            int wrong = format - 1;
            check.noState("commit(" + wrong + ") of the present one", () -> x.commit(wrong));
            check.same("commit(" + format + ")", x.commit(format), format - 1);
            check.same("setting(5)", x.setting(5), format);
        }
        check.noState("commit(9) at 9", () -> x.commit(9));
        check.noState("commit(1) at 9", () -> x.commit(1));
        check.noArgument("commit(10) at 9", () -> x.commit(10));
        check.noArgument("commit(0)", () -> x.commit(0));
        check.noArgument("commit(-1)", () -> x.commit(-1));
        check.same("commit(9) at 1", new WaveUpgrade().commit(9), 1);
        check.same("setting(5)", x.setting(5), 9);
        WaveUpgrade y = Check.cluster("format 8;");
        check.noState("commit(8) at 8", () -> y.commit(8));
        check.same("commit(9) at 8", y.commit(9), 8);
        WaveUpgrade z = Check.cluster("format 3;skew 7;" + TWO + "member m p a;member n q b;");
        check.noState("commit of what one does not read", () -> z.commit(4));
        check.noState("commit of what none reads", () -> z.commit(6));
        z.change(0, 2);
        check.noState("commit of one too many", () -> z.commit(6));
        check.same("commit of what both will read", z.commit(5), 3);
        check.same("the old version may not come again", z.reason(1, 0), 4);
    }

    private static void highestFormat() {
        check.sentence("Returns the highest format that all coming versions of members read; NONE if there is none, or there are no"
                + " members.");
        check.same("of a new object", new WaveUpgrade().highestFormat(), -1);
        check.same("without members", Check.cluster("version a 1 9;place p;").highestFormat(), -1);
        String one = "place p;place q;member m p a;";
        check.same("9", Check.cluster("version a 1 9;" + one).highestFormat(), 9);
        check.same("1", Check.cluster("version a 1 1;" + one).highestFormat(), 1);
        check.same("8", Check.cluster("version a 1 8;" + one).highestFormat(), 8);
        check.same("the lower one of two", Check.cluster("version a 1 8;version b 1 7;" + one + "member n q b;").highestFormat(), 7);
        check.same("the present one alone", Check.cluster("format 4;version a 2 4;version b 4 9;" + one + "member n q b;").highestFormat(), 4);
        WaveUpgrade x = Check.cluster("format 3;skew 7;" + TWO + "member m p a;member n q b;");
        check.same("ahead of a change", x.highestFormat(), 3);
        x.change(0, 2);
        check.same("behind its begin", x.highestFormat(), 5);
        x.pass(5);
        check.same("behind its end", x.highestFormat(), 5);
    }

    private static void wayBack() {
        check.sentence("Returns the version that is reached from the lowest coming version of all members by going down one by one,"
                + " as long as the next lower one reads the format, and may talk with the one above it; NONE without members.");
        check.same("of a new object", new WaveUpgrade().wayBack(), -1);
        check.same("without members", Check.cluster("version a 1 9;place p;").wayBack(), -1);
        String place = "place p;place q;member m p ";
        String chain = each("version # 1 1;", 0, 8) + each("talks # +;", 0, 7) + place;
        check.same("from the lowest one", Check.cluster(chain + "a;").wayBack(), 0);
        check.same("from one above it", Check.cluster(chain + "b;").wayBack(), 0);
        check.same("from the highest one", Check.cluster(chain + "h;").wayBack(), 0);
        check.same("the skew does not count", Check.cluster("skew 0;" + chain + "h;").wayBack(), 0);
        String gap = each("version # 1 1;", 0, 8) + each("talks # +;", 0, 3) + each("talks # +;", 4, 7) + "talks d f;" + place;
        check.same("where they do not talk", Check.cluster(gap + "h;").wayBack(), 4);
        check.same("right above the gap", Check.cluster(gap + "e;").wayBack(), 4);
        check.same("right below the gap", Check.cluster(gap + "d;").wayBack(), 0);
        String formats = "version a 1 9;version b 1 2;version c 1 3;version d 3 9;talks a b;talks b c;talks c d;" + place;
        check.same("all read it", Check.cluster("format 1;" + formats + "c;").wayBack(), 0);
        check.same("all read it, just so", Check.cluster("format 2;" + formats + "c;").wayBack(), 0);
        check.same("one does not", Check.cluster("format 3;" + formats + "c;").wayBack(), 2);
        check.same("one below does not", Check.cluster("format 3;" + formats + "d;").wayBack(), 2);
        check.same("the next one does not", Check.cluster("format 4;" + formats + "d;").wayBack(), 3);
        WaveUpgrade x = Check.cluster("format 1;skew 2;" + formats + "c;member n q c;");
        x.commit(3);
        check.same("behind a commit", x.wayBack(), 2);
        x.undo();
        check.same("it undone", x.wayBack(), 0);
        WaveUpgrade y = Check.cluster("format 3;" + formats + "d;member n q d;");
        check.same("from d", y.wayBack(), 2);
        WaveUpgrade z = Check.cluster("skew 7;" + gap + "h;member n q d;");
        check.same("from the lowest one of two", z.wayBack(), 0);
        z.change(1, 5);
        check.same("what comes counts", z.wayBack(), 4);
    }
}
