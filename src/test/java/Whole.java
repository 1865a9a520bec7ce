import java.util.ArrayList;
import java.util.Arrays;
import java.util.List;

/**
 * All that a cluster answers, also what is hidden until undo(), restore() or the reading of the buffer show
 * it. Whoever asks gives a way to make the cluster, and it is made anew for each two hundred questions, so
 * that no object is used for more than the 512 calls of which the document speaks.
 */
final class Whole {
    private static final int QUESTIONS = 200;
    private static final int MOST_AHEAD = 2000;

    interface Maker {
        WaveUpgrade make();
    }

    interface Call {
        double on(WaveUpgrade x);
    }

    private record Question(String name, Call call) {
    }

    private final List<Question> questions = new ArrayList<>();
    private final boolean isTextAsked;
    private boolean isAheadAsked = false;

    private Whole(boolean isTextAsked) {
        this.isTextAsked = isTextAsked;
    }

    /** All answers, a line each. */
    static List<String> everything(Maker maker) {
        return new Whole(true).answers(maker);
    }

    /** All answers but those about the buffer and the error. */
    static List<String> allButText(Maker maker) {
        return new Whole(false).answers(maker);
    }

    /** The first line in which two lists differ; empty if there is none. */
    static String difference(List<String> got, List<String> due) {
        for (int i = 0; i < Math.max(got.size(), due.size()); i++) {
            String one = i < got.size() ? got.get(i) : "nothing";
            String other = i < due.size() ? due.get(i) : "nothing";
            if (!one.equals(other)) {
                return one + " in place of " + other;
            }
        }
        return "";
    }

    private List<String> answers(Maker maker) {
        List<String> all = new ArrayList<>();
        isAheadAsked = true;
        ask(all, "", maker);
        isAheadAsked = false;
        for (int times = 1; times <= 7; times++) {
            Call[] undos = new Call[times];
            Arrays.fill(undos, (Call) x -> x.undo());
            ask(all, times + " undone: ", maker, undos);
        }
        ask(all, "restored: ", maker, x -> x.restore(), x -> x.undo());
        ask(all, "nothing read, restored: ", maker, x -> x.truncate(0), x -> x.readText(), x -> x.restore(), x -> x.undo());
        if (isTextAsked) {
            ask(all, "fed: ", maker, x -> x.feed(0, 0, 0, 0, 0));
            ask(all, "text read: ", maker, x -> x.readText(), x -> x.truncate(1));
            ask(all, "script run: ", maker, x -> x.runScript(), x -> x.truncate(1));
        }
        return all;
    }

    static String outcome(Call call, WaveUpgrade x) {
        try {
            return "" + call.on(x);
        } catch (RuntimeException e) {
            return e.getClass().getSimpleName();
        }
    }

    /** Asks all questions behind some first calls. */
    private void ask(List<String> all, String sort, Maker maker, Call... first) {
        WaveUpgrade x = maker.make();
        for (Call call : first) {
            all.add(sort + "a first call = " + outcome(call, x));
        }
        questions.clear();
        collect(x);
        for (int i = 0; i < questions.size(); i++) {
            if (i % QUESTIONS == 0) {
                x = maker.make();
                for (Call call : first) {
                    outcome(call, x);
                }
            }
            Question each = questions.get(i);
            all.add(sort + each.name + " = " + outcome(each.call, x));
        }
    }

    private void add(String name, Call call) {
        questions.add(new Question(name, call));
    }

    private void collect(WaveUpgrade sizes) {
        int versions = sizes.setting(0);
        int places = sizes.setting(1);
        int members = sizes.setting(2);
        int waves = sizes.setting(3);
        int events = sizes.events();
        for (int what = 0; what <= 11; what++) {
            int w = what;
            add("setting(" + w + ")", x -> x.setting(w));
        }
        for (int what = 0; what <= 4; what++) {
            int w = what;
            add("plan(" + w + ")", x -> x.plan(w));
        }
        for (int v = 0; v < versions; v++) {
            ofVersion(v, versions);
        }
        for (int m = 0; m < members; m++) {
            ofMember(m, versions);
        }
        for (int place = 0; place < places; place++) {
            int p = place;
            add("down(" + p + ")", x -> x.down(p));
        }
        for (int wave = 0; wave < waves; wave++) {
            int w = wave;
            add("inWave(" + w + ")", x -> x.inWave(w));
        }
        for (int format = 1; format <= 9; format++) {
            int f = format;
            add("readers(" + f + ")", x -> x.readers(f));
            add("whyNotCommit(" + f + ")", x -> x.whyNotCommit(f));
        }
        ofAll(events);
        if (isAheadAsked) {
            whatWillBe(members);
        }
    }

    private void ofVersion(int v, int versions) {
        add("talkers(" + v + ")", x -> x.talkers(v));
        add("with(" + v + ")", x -> x.with(v));
        add("share(" + v + ")", x -> x.share(v));
        for (int other = 0; other < versions; other++) {
            int o = other;
            add("mayTalk(" + v + ", " + o + ")", x -> x.mayTalk(v, o) ? 1 : 0);
            add("wayOf(" + v + ", " + o + ")", x -> x.wayOf(v, o));
            add("nextOnWay(" + v + ", " + o + ")", x -> x.nextOnWay(v, o));
        }
    }

    private void ofMember(int m, int versions) {
        for (int what = 0; what <= 6; what++) {
            int w = what;
            add("member(" + m + ", " + w + ")", x -> x.member(m, w));
        }
        add("partners(" + m + ")", x -> x.partners(m));
        add("open(" + m + ")", x -> x.open(m));
        for (int version = 0; version < versions; version++) {
            int v = version;
            add("reason(" + m + ", " + v + ")", x -> x.reason(m, v));
            add("against(" + m + ", " + v + ")", x -> x.against(m, v));
        }
    }

    private void ofAll(int events) {
        add("skewNow()", x -> x.skewNow());
        add("mixed()", x -> x.mixed());
        add("lagging()", x -> x.lagging());
        add("blocked()", x -> x.blocked());
        add("meanMeasure()", x -> x.meanMeasure());
        add("highestFormat()", x -> x.highestFormat());
        add("wayBack()", x -> x.wayBack());
        add("events()", x -> x.events());
        for (int event = 0; event <= events; event++) {
            int i = event;
            for (int what = 0; what <= 3; what++) {
                int w = what;
                add("event(" + i + ", " + w + ")", x -> x.event(i, w));
            }
        }
        for (int index = 0; index <= 60; index++) {
            int i = index;
            add("reportByte(" + i + ")", x -> x.reportByte(i));
        }
        if (isTextAsked) {
            add("errorCode()", x -> x.errorCode());
            add("errorPosition()", x -> x.errorPosition());
        }
    }

    private void whatWillBe(int members) {
        add("minutesToEnd", x -> x.minutesToEnd(MOST_AHEAD));
        add("changesIn", x -> x.changesIn(MOST_AHEAD));
        add("bestToFree", x -> x.bestToFree());
        for (int member = 0; member < members; member++) {
            int m = member;
            add("minutesIfFree(" + m + ")", x -> x.minutesIfFree(m));
            add("wouldStop(" + m + ", 999)", x -> x.wouldStop(m, 999) ? 1 : 0);
            add("wouldStop(" + m + ", 0)", x -> x.wouldStop(m, 0) ? 1 : 0);
        }
    }
}
