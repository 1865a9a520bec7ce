import java.util.ArrayList;
import java.util.List;
import java.util.Map;
import java.util.TreeMap;

/** Runs of as many calls as an object is used for, the same ones on the class and on the Model; the seeds are fixed. */
final class RandomTest {
    private static final int RUNS = 3000;
    private static final int MOST_CALLS = 512;
    /** So many questions are taken by dice from all that there are. */
    private static final int ASKED = 30;

    private static final Map<String, Integer> seen = new TreeMap<>();
    private static final List<String> told = new ArrayList<>();

    private final Dice dice;
    private final WaveUpgrade x = new WaveUpgrade();
    private final Model y = new Model();
    private final List<String> calls = new ArrayList<>();
    private final List<Runnable> questions = new ArrayList<>();
    private int made = 0;

    interface Call {
        double answer();
    }

    private RandomTest(long seed) {
        dice = new Dice(seed);
    }

    public static void main(String[] args) {
        long first = args.length > 0 ? Long.parseLong(args[0]) : 1;
        int runs = args.length > 1 ? Integer.parseInt(args[1]) : RUNS;
        for (long seed = first; seed < first + runs && told.isEmpty(); seed++) {
            new RandomTest(seed).run();
            if (!told.isEmpty()) {
                System.out.println("RandomTest, seed " + seed + ": " + told);
            }
        }
        if (args.length > 2) {
            seen.forEach((what, count) -> System.out.println(count + " " + what));
        }
        System.out.println("RandomTest: " + runs + " runs" + (told.isEmpty() ? ", no difference" : ""));
        if (!told.isEmpty()) {
            System.exit(1);
        }
    }

    private static String outcome(Call call) {
        try {
            return "" + call.answer();
        } catch (RuntimeException e) {
            return e.getClass().getSimpleName();
        }
    }

    /** Asks both, and tells if they do not answer the same. */
    private void both(String name, Call ofClass, Call ofModel) {
        if (made >= MOST_CALLS) {
            return;
        }
        made++;
        String got = outcome(ofClass);
        String due = outcome(ofModel);
        calls.add(name + " = " + got);
        String sort = name.replaceAll("\\(.*", "");
        String answer = got.equals("-1.0") ? "NONE" : got.equals("0.0") ? "0" : got.endsWith("Exception") ? got : "number";
        seen.merge(sort + " " + answer, 1, Integer::sum);
        if (!got.equals(due)) {
            told.add(name + " answered " + got + ", the model " + due + ", behind "
                    + calls.subList(Math.max(0, calls.size() - 12), calls.size()));
        }
    }

    private static double bit(boolean b) {
        return b ? 1 : 0;
    }

    private void run() {
        calls.add("new");
        dump();
        texts();
        while (made < MOST_CALLS && told.isEmpty()) {
            if (dice.in(100)) {
                texts();
            } else if (dice.in(12)) {
                script(Texts.script(dice, names(true), names(false)));
            } else if (dice.in(3)) {
                change();
            } else {
                ask();
            }
            if (dice.in(8)) {
                dump();
            }
        }
    }

    private List<String> names(boolean isOfVersions) {
        List<String> all = new ArrayList<>();
        if (isOfVersions) {
            y.now.versions.forEach(v -> all.add(v.name));
        } else {
            y.now.members.forEach(m -> all.add(m.name));
        }
        return all;
    }

    // ---- texts

    private void put(String text) {
        both("truncate(0)", () -> x.truncate(0), () -> y.truncate(0));
        for (int i = 0; i < text.length(); i += 20) {
            int[] f = new int[5];
            for (int k = 0; k < 5; k++) {
                f[k] = Check.four(text, i + 4 * k);
            }
            both("feed", () -> x.feed(f[0], f[1], f[2], f[3], f[4]), () -> y.feed(f));
        }
        both("truncate(" + text.length() + ")", () -> x.truncate(text.length()), () -> y.truncate(text.length()));
    }

    private void error(String sort) {
        both("errorCode", x::errorCode, y::errorCode);
        both("errorPosition", x::errorPosition, y::errorPosition);
        seen.merge("code " + sort + " " + y.errorCode(), 1, Integer::sum);
    }

    /** Sometimes any text; mostly one that is good and has a wave and a member, so that the run is worth its time. */
    private void texts() {
        if (dice.in(3)) {
            text(Texts.cluster(dice));
            dump();
        }
        String good = Texts.cluster(dice);
        for (int k = 0; k < 30 && !isWorthIt(good); k++) {
            good = Texts.cluster(dice);
        }
        text(good);
    }

    private static boolean isWorthIt(String text) {
        Model model = new Model();
        for (int i = 0; i < text.length(); i += 20) {
            model.feed(new int[] {Check.four(text, i), Check.four(text, i + 4), Check.four(text, i + 8), Check.four(text, i + 12),
                Check.four(text, i + 16)});
        }
        model.truncate(text.length());
        return outcome(model::readText).length() < 6 && !model.now.members.isEmpty() && !model.now.waves.isEmpty();
    }

    private void text(String text) {
        put(text);
        calls.add("text <" + text + ">");
        both("readText", x::readText, y::readText);
        error("text");
    }

    private void script(String text) {
        put(text);
        calls.add("script <" + text + ">");
        both("runScript", x::runScript, y::runScript);
        error("script");
        both("truncate(1)", () -> x.truncate(1), () -> y.truncate(1));
    }

    // ---- numbers, mostly good ones

    private int number(int count) {
        return dice.in(25) ? dice.below(count + 4) - 2 : dice.below(Math.max(1, count));
    }

    private int version() {
        return number(y.now.versions.size());
    }

    private int member() {
        return number(y.now.members.size());
    }

    private int measure() {
        return dice.in(20) ? dice.below(2) * 1001 - 1 : dice.in(2) ? dice.below(80) : dice.below(1000);
    }

    private void change() {
        int m = member();
        int v = version();
        int n = dice.in(8) ? dice.below(1010) - 5 : dice.in(3) ? dice.below(70) : dice.below(12);
        int w = measure();
        int f = dice.in(2) ? y.now.format + 1 : dice.below(11);
        boolean b = dice.in(2);
        switch (dice.below(14)) {
            case 0: case 1: case 2: case 3:
                both("pass(" + n + ")", () -> x.pass(n), () -> y.pass(n)); break;
            case 4: case 5:
                both("start(" + v + ")", () -> x.start(v), () -> y.start(v)); break;
            case 6: both("stop()", x::stop, y::stop); break;
            case 7: both("go()", x::go, y::go); break;
            case 8: both("hold(" + m + b + ")", () -> x.hold(m, b), () -> y.hold(m, b)); break;
            case 9: both("report(" + m + "," + w + ")", () -> x.report(m, w), () -> y.report(m, w)); break;
            case 10: both("change(" + m + "," + v + ")", () -> x.change(m, v), () -> y.change(m, v)); break;
            case 11: both("commit(" + f + ")", () -> x.commit(f), () -> y.commit(f)); break;
            case 12: both("undo()", x::undo, y::undo); break;
            default:
                if (dice.in(3)) {
                    both("save()", x::save, y::save);
                } else if (dice.in(3)) {
                    both("restore()", x::restore, y::restore);
                } else {
                    both("undo()", x::undo, y::undo);
                }
                break;
        }
    }

    private void ask() {
        int m = member();
        int n = dice.in(10) ? dice.below(2010) - 4 : dice.below(120);
        int w = measure();
        int i = dice.below(34) - 2;
        int what = number(5);
        switch (dice.below(8)) {
            case 0: both("minutesToEnd(" + n + ")", () -> x.minutesToEnd(n), () -> y.minutesToEnd(n)); break;
            case 1: both("changesIn(" + n + ")", () -> x.changesIn(n), () -> y.changesIn(n)); break;
            case 2: case 3:
                both("wouldStop(" + m + "," + w + ")", () -> bit(x.wouldStop(m, w)), () -> bit(y.wouldStop(m, w))); break;
            case 4: both("event(" + i + "," + what + ")", () -> x.event(i, what), () -> y.event(i, what)); break;
            case 5: both("writeReport", x::writeReport, y::writeReport); break;
            case 6: both("reportByte", () -> x.reportByte(n), () -> y.reportByte(n)); break;
            default:
                if (dice.in(6)) {
                    both("minutesIfFree(" + m + ")", () -> x.minutesIfFree(m), () -> y.minutesIfFree(m));
                } else if (dice.in(12)) {
                    both("bestToFree()", x::bestToFree, y::bestToFree);
                }
                break;
        }
    }

    private void question(String name, Call ofClass, Call ofModel) {
        questions.add(() -> both(name, ofClass, ofModel));
    }

    /** Some of all that can be asked cheaply; RefusedTest has what lies behind the ends. */
    private void dump() {
        questions.clear();
        int versions = y.now.versions.size();
        for (int k = 0; k < 12; k++) {
            int w = k;
            question("setting(" + w + ")", () -> x.setting(w), () -> y.setting(w));
        }
        for (int k = 1; k <= 9; k++) {
            int f = k;
            question("readers(" + f + ")", () -> x.readers(f), () -> y.readers(f));
            question("whyNotCommit(" + f + ")", () -> x.whyNotCommit(f), () -> y.whyNotCommit(f));
        }
        for (int k = 0; k < y.now.places.size(); k++) {
            int p = k;
            question("down(" + p + ")", () -> x.down(p), () -> y.down(p));
        }
        for (int k = 0; k < y.now.waves.size(); k++) {
            int w = k;
            question("inWave(" + w + ")", () -> x.inWave(w), () -> y.inWave(w));
        }
        for (int k = 0; k < versions; k++) {
            ofVersion(k, versions);
        }
        for (int k = 0; k < y.now.members.size(); k++) {
            ofMember(k, versions);
        }
        ofAll();
        for (int k = 0; k < ASKED; k++) {
            questions.get(dice.below(questions.size())).run();
        }
        count(versions);
    }

    private void ofVersion(int v, int versions) {
        question("talkers(" + v + ")", () -> x.talkers(v), () -> y.talkers(v));
        question("with(" + v + ")", () -> x.with(v), () -> y.with(v));
        question("share(" + v + ")", () -> x.share(v), () -> y.share(v));
        for (int k = 0; k < versions; k++) {
            int o = k;
            question("mayTalk(" + v + "," + o + ")", () -> bit(x.mayTalk(v, o)), () -> bit(y.mayTalk(v, o)));
            question("wayOf(" + v + "," + o + ")", () -> x.wayOf(v, o), () -> y.wayOf(v, o));
            question("nextOnWay(" + v + "," + o + ")", () -> x.nextOnWay(v, o), () -> y.nextOnWay(v, o));
        }
    }

    private void ofMember(int m, int versions) {
        question("partners(" + m + ")", () -> x.partners(m), () -> y.partners(m));
        question("open(" + m + ")", () -> x.open(m), () -> y.open(m));
        for (int k = 0; k < 7; k++) {
            int what = k;
            question("member(" + m + "," + what + ")", () -> x.member(m, what), () -> y.member(m, what));
        }
        for (int k = 0; k < versions; k++) {
            int v = k;
            question("reason(" + m + "," + v + ")", () -> x.reason(m, v), () -> y.reason(m, v));
            question("against(" + m + "," + v + ")", () -> x.against(m, v), () -> y.against(m, v));
        }
    }

    private void ofAll() {
        for (int k = 0; k < 4; k++) {
            question("skewNow", x::skewNow, y::skewNow);
            question("mixed", x::mixed, y::mixed);
            question("lagging", x::lagging, y::lagging);
            question("blocked", x::blocked, y::blocked);
            question("meanMeasure", x::meanMeasure, y::meanMeasure);
            question("highestFormat", x::highestFormat, y::highestFormat);
            question("wayBack", x::wayBack, y::wayBack);
            question("events", x::events, y::events);
        }
        for (int k = 0; k < 5; k++) {
            int what = k;
            question("plan(" + what + ")", () -> x.plan(what), () -> y.plan(what));
        }
        for (int k = 0; k < y.events(); k++) {
            int i = k;
            for (int j = 0; j < 4; j++) {
                int what = j;
                question("event(" + i + "," + what + ")", () -> x.event(i, what), () -> y.event(i, what));
            }
        }
    }

    /** For those who want to know what the runs have met. */
    private void count(int versions) {
        seen.merge("plan state " + y.now.plan, 1, Integer::sum);
        for (int[] e : y.now.events) {
            seen.merge("event kind " + e[1], 1, Integer::sum);
        }
        for (Model.Member m : y.now.members) {
            for (int v = 0; v < versions; v++) {
                seen.merge("reason is " + y.now.reason(m, v), 1, Integer::sum);
            }
        }
    }
}
