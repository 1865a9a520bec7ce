import java.util.ArrayList;
import java.util.LinkedList;
import java.util.List;
import java.util.Set;
import java.util.TreeSet;

/**
 * A second reading of the document, written to be plain and not to be fast: everything is computed anew
 * from lists of objects, texts are split into tokens ahead of reading, and undo keeps whole copies.
 */
final class Model {
    static final class Version {
        String name;
        int low;
        int high;
    }

    static final class Member {
        String name;
        String place;
        int version;
        Integer next;
        int upAt;
        int measure;
        boolean held;

        int coming() {
            return next == null ? version : next;
        }
    }

    static final class Cluster {
        List<Version> versions = new ArrayList<>();
        Set<String> talks = new TreeSet<>();
        List<String> places = new ArrayList<>();
        List<Member> members = new ArrayList<>();
        Set<String> links = new TreeSet<>();
        List<List<String>> waves = new ArrayList<>();
        int format = 1;
        int skew = 1;
        int down = 1;
        int takes = 5;
        int soak = 10;
        int limit = 50;
        int clock = 0;
        String plan = "none";
        boolean wasSoaking;
        int target;
        int step;
        int wave;
        boolean up;
        int soakEnd;
        LinkedList<int[]> events = new LinkedList<>();
        int begun = 0;

        Cluster copy() {
            Cluster c = new Cluster();
            c.versions.addAll(versions);
            c.talks.addAll(talks);
            c.places.addAll(places);
            for (Member m : members) {
                Member n = new Member();
                n.name = m.name;
                n.place = m.place;
                n.version = m.version;
                n.next = m.next;
                n.upAt = m.upAt;
                n.measure = m.measure;
                n.held = m.held;
                c.members.add(n);
            }
            c.links.addAll(links);
            c.waves.addAll(waves);
            c.format = format;
            c.skew = skew;
            c.down = down;
            c.takes = takes;
            c.soak = soak;
            c.limit = limit;
            c.clock = clock;
            c.plan = plan;
            c.wasSoaking = wasSoaking;
            c.target = target;
            c.step = step;
            c.wave = wave;
            c.up = up;
            c.soakEnd = soakEnd;
            c.events.addAll(events);
            c.begun = begun;
            return c;
        }

        boolean talk(int a, int b) {
            return a == b || talks.contains(a + "-" + b) || talks.contains(b + "-" + a);
        }

        boolean reads(int v, int f) {
            return versions.get(v).low <= f && f <= versions.get(v).high;
        }

        boolean linked(Member a, Member b) {
            return links.contains(a.name + "-" + b.name) || links.contains(b.name + "-" + a.name);
        }

        boolean partners(Member a, Member b) {
            return a != b && (a.place.equals(b.place) || linked(a, b));
        }

        int waveOf(String place) {
            for (int w = 0; w < waves.size(); w++) {
                if (waves.get(w).contains(place)) {
                    return w;
                }
            }
            return -1;
        }

        boolean planned(Member m) {
            return waveOf(m.place) >= 0;
        }

        void tell(int kind, int member, int number) {
            events.addFirst(new int[] {clock, kind, member, number});
            while (events.size() > 30) {
                events.removeLast();
            }
        }

        int reason(Member m, int v) {
            if (m.held) {
                return 1;
            }
            if (m.next != null) {
                return 2;
            }
            if (m.version == v) {
                return 3;
            }
            if (!reads(v, format)) {
                return 4;
            }
            int there = 0;
            for (Member o : members) {
                if (o.place.equals(m.place) && o.next != null) {
                    there++;
                }
            }
            if (there >= down) {
                return 5;
            }
            for (Member o : members) {
                if (o != m && Math.abs(o.coming() - v) > skew) {
                    return 6;
                }
            }
            for (Member o : members) {
                if (partners(o, m) && !talk(o.coming(), v)) {
                    return 7;
                }
            }
            return 0;
        }

        boolean reached(Member m) {
            return m.next == null && (up ? m.version >= step : m.version <= step);
        }

        boolean isActive() {
            return plan.equals("rolling") || plan.equals("soaking");
        }

        boolean hasPlan() {
            return isActive() || plan.equals("stopped");
        }

        List<Member> counted() {
            List<Member> all = new ArrayList<>();
            for (Member m : members) {
                if (hasPlan() && planned(m) && reached(m)) {
                    all.add(m);
                }
            }
            return all;
        }

        double mean() {
            List<Member> all = counted();
            long sum = 0;
            for (Member m : all) {
                sum += m.measure;
            }
            return all.isEmpty() ? 0.0 : (double) sum / (double) all.size();
        }

        void begin(Member m, int v) {
            m.next = v;
            m.upAt = clock + takes;
            begun++;
            tell(0, members.indexOf(m), v);
        }

        void halt() {
            wasSoaking = plan.equals("soaking");
            plan = "stopped";
            tell(4, -1, wave);
        }

        void done() {
            plan = "done";
            tell(6, -1, target);
        }

        void minute() {
            clock++;
            for (Member m : members) {
                if (m.next != null && m.upAt == clock) {
                    m.version = m.next;
                    m.next = null;
                    m.measure = 0;
                    tell(1, members.indexOf(m), m.version);
                }
            }
            if (isActive() && mean() > limit) {
                halt();
            }
            if (plan.equals("soaking") && clock >= soakEnd) {
                plan = "rolling";
                if (wave + 1 < waves.size()) {
                    wave++;
                } else if (step == target) {
                    done();
                } else {
                    wave = 0;
                    step = up ? step + 1 : step - 1;
                }
            }
            if (!plan.equals("rolling")) {
                return;
            }
            boolean isComplete = true;
            for (Member m : members) {
                if (waveOf(m.place) == wave && !m.held && m.next == null && !reached(m) && reason(m, step) == 0) {
                    begin(m, step);
                }
            }
            for (Member m : members) {
                isComplete &= waveOf(m.place) != wave || m.held || reached(m);
            }
            if (isComplete) {
                plan = "soaking";
                soakEnd = clock + soak;
                tell(3, -1, wave);
            }
        }
    }

    static final class Fault extends RuntimeException {
        private static final long serialVersionUID = 1;
        final int code;
        final int position;

        Fault(int code, int position) {
            this.code = code;
            this.position = position;
        }
    }

    static final class Token {
        String text;
        /** w a word, n a number, ; ( ) themselves, ! an invalid one, . the end. */
        char kind;
        int position;
    }

    static List<Token> split(String all) {
        List<Token> tokens = new ArrayList<>();
        java.util.regex.Matcher m = java.util.regex.Pattern.compile("[a-z]+|[0-9]+|[^ \n]", java.util.regex.Pattern.DOTALL)
                .matcher(all);
        while (m.find()) {
            Token t = new Token();
            t.text = m.group();
            t.position = m.start();
            char c = t.text.charAt(0);
            boolean isWord = c >= 'a' && c <= 'z';
            boolean isNumber = c >= '0' && c <= '9';
            if (isWord) {
                t.kind = t.text.length() > 8 ? '!' : 'w';
            } else if (isNumber) {
                t.kind = t.text.length() > 3 ? '!' : 'n';
            } else {
                t.kind = ";()".indexOf(c) >= 0 ? c : '!';
            }
            tokens.add(t);
        }
        Token end = new Token();
        end.text = "";
        end.kind = '.';
        end.position = all.length();
        tokens.add(end);
        return tokens;
    }

    Cluster now = new Cluster();
    private Cluster saved;
    private final LinkedList<Cluster> undos = new LinkedList<>();
    private String report;
    String buffer = "";
    private int code;
    private int position = -1;
    private List<Token> tokens;
    private int at;

    // ---- texts

    int feed(int... five) {
        if (buffer.length() + 20 > 900) {
            throw new IllegalStateException();
        }
        for (int each : five) {
            for (int k = 3; k >= 0; k--) {
                buffer += (char) (each >>> 8 * k & 255);
            }
        }
        return buffer.length();
    }

    int truncate(int n) {
        if (n < 0 || n > buffer.length()) {
            throw new IllegalArgumentException();
        }
        buffer = buffer.substring(0, n);
        return n;
    }

    private void split() {
        tokens = split(buffer);
        at = 0;
        buffer = "";
        code = 0;
        position = -1;
    }

    private Token peek() {
        return tokens.get(at);
    }

    private void fault(int itsCode) {
        throw new Fault(itsCode, peek().position);
    }

    private String word() {
        if (peek().kind != 'w') {
            fault(1);
        }
        return peek().text;
    }

    private int number(int low, int high) {
        if (peek().kind != 'n') {
            fault(1);
        }
        int n = Integer.parseInt(peek().text);
        if (n < low || n > high) {
            fault(2);
        }
        at++;
        return n;
    }

    private void sign(char c) {
        if (peek().kind != c) {
            fault(1);
        }
        at++;
    }

    private int known(List<String> names) {
        int k = names.indexOf(word());
        if (k < 0) {
            fault(3);
        }
        return k;
    }

    private String fresh(List<String> names) {
        String name = word();
        if (names.contains(name)) {
            fault(3);
        }
        at++;
        return name;
    }

    private static List<String> versionNames(Cluster c) {
        List<String> all = new ArrayList<>();
        for (Version v : c.versions) {
            all.add(v.name);
        }
        return all;
    }

    private static List<String> memberNames(Cluster c) {
        List<String> all = new ArrayList<>();
        for (Member m : c.members) {
            all.add(m.name);
        }
        return all;
    }

    int readText() {
        split();
        Cluster c = new Cluster();
        try {
            Set<String> stood = new TreeSet<>();
            while (peek().kind != '.') {
                statement(c, stood);
                sign(';');
            }
        } catch (Fault f) {
            code = f.code;
            position = f.position;
            throw new IllegalArgumentException();
        }
        now = c;
        undos.clear();
        return now.members.size();
    }

    private void statement(Cluster c, Set<String> stood) {
        String word = word();
        if (!List.of("version", "talks", "place", "member", "link", "wave", "format", "skew", "down", "takes", "soak",
                "limit").contains(word)) {
            fault(1);
        }
        if (stood.contains(word) || (word.equals("format") || word.equals("skew")) && !c.members.isEmpty()) {
            fault(4);
        }
        if (word.equals("version") && c.versions.size() == 8 || word.equals("place") && c.places.size() == 5
                || word.equals("member") && c.members.size() == 12 || word.equals("wave") && c.waves.size() == 5
                || word.equals("link") && c.links.size() == 20) {
            fault(6);
        }
        at++;
        if (word.equals("version")) {
            Version v = new Version();
            v.name = fresh(versionNames(c));
            v.low = number(1, 9);
            v.high = number(v.low, 9);
            c.versions.add(v);
        } else if (word.equals("talks")) {
            int a = known(versionNames(c));
            at++;
            int b = known(versionNames(c));
            if (a == b) {
                fault(3);
            }
            if (c.talk(a, b)) {
                fault(4);
            }
            at++;
            c.talks.add(a + "-" + b);
        } else if (word.equals("place")) {
            c.places.add(fresh(c.places));
        } else if (word.equals("member")) {
            member(c);
        } else if (word.equals("link")) {
            link(c);
        } else if (word.equals("wave")) {
            List<String> wave = new ArrayList<>();
            c.waves.add(wave);
            do {
                String place = c.places.get(known(c.places));
                if (c.waveOf(place) >= 0) {
                    fault(4);
                }
                wave.add(place);
                at++;
            } while (peek().kind == 'w');
        } else {
            stood.add(word);
            single(c, word);
        }
    }

    private void single(Cluster c, String word) {
        switch (word) {
            case "format": c.format = number(1, 9); break;
            case "skew": c.skew = number(0, 7); break;
            case "down": c.down = number(1, 12); break;
            case "takes": c.takes = number(1, 99); break;
            case "soak": c.soak = number(0, 99); break;
            default: c.limit = number(0, 999); break;
        }
    }

    private void member(Cluster c) {
        Member m = new Member();
        m.name = fresh(memberNames(c));
        m.place = c.places.get(known(c.places));
        at++;
        m.version = known(versionNames(c));
        if (!c.reads(m.version, c.format)) {
            fault(5);
        }
        for (Member o : c.members) {
            if (Math.abs(o.version - m.version) > c.skew) {
                fault(5);
            }
            if (o.place.equals(m.place) && !c.talk(o.version, m.version)) {
                fault(5);
            }
        }
        at++;
        if (peek().kind == 'w' && peek().text.equals("held")) {
            m.held = true;
            at++;
        }
        c.members.add(m);
    }

    private void link(Cluster c) {
        Member a = c.members.get(known(memberNames(c)));
        at++;
        Member b = c.members.get(known(memberNames(c)));
        if (a.place.equals(b.place)) {
            fault(3);
        }
        if (c.linked(a, b)) {
            fault(4);
        }
        if (!c.talk(a.version, b.version)) {
            fault(5);
        }
        at++;
        c.links.add(a.name + "-" + b.name);
    }

    // ---- scripts

    /** A command, or a "repeat" with those within it. */
    static final class Command {
        String word;
        int member;
        int version;
        int number;
        List<Command> inner;
    }

    private int commands;
    private int done;
    private boolean isOver;

    int runScript() {
        split();
        commands = 0;
        List<Command> all;
        try {
            all = commands(0);
            if (peek().kind != '.') {
                fault(1);
            }
        } catch (Fault f) {
            code = f.code;
            position = f.position;
            throw new IllegalArgumentException();
        }
        Cluster before = now.copy();
        done = 0;
        isOver = false;
        LinkedList<Cluster> kept = new LinkedList<>(undos);
        run(all);
        undos.clear();
        undos.addAll(kept);
        keep(before);
        return done;
    }

    private List<Command> commands(int depth) {
        List<Command> all = new ArrayList<>();
        while (peek().kind == 'w') {
            Command c = new Command();
            c.word = word();
            if (!List.of("pass", "start", "stop", "go", "hold", "free", "report", "change", "commit", "repeat")
                    .contains(c.word)) {
                fault(1);
            }
            if (c.word.equals("repeat") && depth == 2) {
                fault(4);
            }
            commands++;
            if (commands > 30) {
                fault(6);
            }
            at++;
            if (List.of("hold", "free", "report", "change").contains(c.word)) {
                c.member = known(memberNames(now));
                at++;
            }
            if (List.of("start", "change").contains(c.word)) {
                c.version = known(versionNames(now));
                at++;
            }
            if (List.of("pass", "report", "commit").contains(c.word)) {
                c.number = number(0, 999);
            }
            if (c.word.equals("repeat")) {
                c.number = number(1, 20);
                sign('(');
                c.inner = commands(depth + 1);
                sign(')');
            }
            sign(';');
            all.add(c);
        }
        if (depth == 0 && peek().kind != '.' || depth > 0 && peek().kind != ')') {
            fault(1);
        }
        return all;
    }

    private void run(List<Command> all) {
        for (Command c : all) {
            if (isOver || done == 40) {
                return;
            }
            if (c.inner != null) {
                for (int k = 0; k < c.number; k++) {
                    run(c.inner);
                }
                continue;
            }
            try {
                obey(c);
                done++;
            } catch (IllegalArgumentException | IllegalStateException | IndexOutOfBoundsException e) {
                isOver = true;
            }
        }
    }

    private void obey(Command c) {
        switch (c.word) {
            case "pass": pass(c.number); break;
            case "start": start(c.version); break;
            case "stop": stop(); break;
            case "go": go(); break;
            case "hold": hold(c.member, true); break;
            case "free": hold(c.member, false); break;
            case "report": report(c.member, c.number); break;
            case "change": change(c.member, c.version); break;
            default: commit(c.number); break;
        }
    }

    int errorCode() {
        return code;
    }

    int errorPosition() {
        return position;
    }

    // ---- what is

    private static void index(int i, int count) {
        if (i < 0 || i >= count) {
            throw new IndexOutOfBoundsException();
        }
    }

    private static void argument(int n, int low, int high) {
        if (n < low || n > high) {
            throw new IllegalArgumentException();
        }
    }

    private void version(int v) {
        index(v, now.versions.size());
    }

    private Member memberAt(int m) {
        index(m, now.members.size());
        return now.members.get(m);
    }

    int setting(int what) {
        argument(what, 0, 11);
        return new int[] {now.versions.size(), now.places.size(), now.members.size(), now.waves.size(),
            now.links.size(), now.format, now.skew, now.down, now.takes, now.soak, now.limit, now.clock}[what];
    }

    boolean mayTalk(int a, int b) {
        version(a);
        version(b);
        return now.talk(a, b);
    }

    int readers(int format) {
        argument(format, 1, 9);
        int set = 0;
        for (int v = 0; v < now.versions.size(); v++) {
            set += now.reads(v, format) ? 1 << v : 0;
        }
        return set;
    }

    int talkers(int a) {
        version(a);
        int set = 0;
        for (int v = 0; v < now.versions.size(); v++) {
            set += now.talk(v, a) ? 1 << v : 0;
        }
        return set;
    }

    /** All shortest ways, found by trying all ways without a version twice. */
    private List<List<Integer>> ways(int a, int b) {
        version(a);
        version(b);
        List<List<Integer>> found = new ArrayList<>();
        LinkedList<List<Integer>> tried = new LinkedList<>(List.of(List.of(a)));
        while (!tried.isEmpty()) {
            List<Integer> way = tried.removeFirst();
            if (!found.isEmpty() && found.get(0).size() < way.size()) {
                continue;
            }
            int last = way.get(way.size() - 1);
            if (last == b) {
                found.add(way);
                continue;
            }
            for (int v = 0; v < now.versions.size(); v++) {
                if (!way.contains(v) && now.reads(v, now.format) && now.talk(v, last) && Math.abs(v - last) <= now.skew) {
                    List<Integer> longer = new ArrayList<>(way);
                    longer.add(v);
                    tried.add(longer);
                }
            }
        }
        return found;
    }

    int wayOf(int a, int b) {
        List<List<Integer>> all = ways(a, b);
        return all.isEmpty() ? -1 : all.get(0).size() - 1;
    }

    int nextOnWay(int a, int b) {
        int best = -1;
        for (List<Integer> way : ways(a, b)) {
            if (way.size() > 1 && (best < 0 || way.get(1) < best)) {
                best = way.get(1);
            }
        }
        return best;
    }

    int member(int k, int what) {
        Member m = memberAt(k);
        argument(what, 0, 6);
        switch (what) {
            case 0: return now.places.indexOf(m.place);
            case 1: return m.version;
            case 2: return m.next == null ? -1 : m.next;
            case 3: return m.next == null ? -1 : m.upAt;
            case 4: return m.measure;
            case 5: return m.held ? 1 : 0;
            default: return now.waveOf(m.place);
        }
    }

    interface Test {
        boolean holds(Member m);
    }

    private int set(Test test) {
        int set = 0;
        for (int k = 0; k < now.members.size(); k++) {
            set += test.holds(now.members.get(k)) ? 1 << k : 0;
        }
        return set;
    }

    int partners(int k) {
        Member a = memberAt(k);
        return set(m -> now.partners(a, m));
    }

    int with(int v) {
        version(v);
        return set(m -> m.next == null && m.version == v);
    }

    int down(int place) {
        index(place, now.places.size());
        return set(m -> m.next != null && m.place.equals(now.places.get(place)));
    }

    int skewNow() {
        int most = 0;
        for (Member a : now.members) {
            for (Member b : now.members) {
                most = Math.max(most, a.coming() - b.coming());
            }
        }
        return most;
    }

    int reason(int k, int v) {
        Member m = memberAt(k);
        version(v);
        return now.reason(m, v);
    }

    int open(int k) {
        Member m = memberAt(k);
        int set = 0;
        for (int v = 0; v < now.versions.size(); v++) {
            set += now.reason(m, v) == 0 ? 1 << v : 0;
        }
        return set;
    }

    int against(int k, int v) {
        Member a = memberAt(k);
        version(v);
        return set(m -> now.partners(a, m) && !now.talk(m.coming(), v));
    }

    int mixed() {
        int pairs = 0;
        for (int a = 0; a < now.members.size(); a++) {
            for (int b = 0; b < a; b++) {
                Member m = now.members.get(a);
                Member n = now.members.get(b);
                if (now.partners(m, n) && m.next == null && n.next == null && m.version != n.version) {
                    pairs++;
                }
            }
        }
        return pairs;
    }

    int plan(int what) {
        argument(what, 0, 4);
        switch (what) {
            case 0: return List.of("none", "rolling", "soaking", "stopped", "done").indexOf(now.plan);
            case 1: return now.hasPlan() ? now.target : -1;
            case 2: return now.hasPlan() ? now.step : -1;
            case 3: return now.hasPlan() ? now.wave : -1;
            default: return now.plan.equals("soaking") || now.plan.equals("stopped") && now.wasSoaking ? now.soakEnd : -1;
        }
    }

    int lagging() {
        return set(m -> now.hasPlan() && now.waveOf(m.place) == now.wave && !now.reached(m));
    }

    int blocked() {
        return set(m -> now.hasPlan() && now.waveOf(m.place) == now.wave && !now.reached(m) && m.next == null
                && now.reason(m, now.step) != 0);
    }

    int inWave(int wave) {
        index(wave, now.waves.size());
        return set(m -> now.waveOf(m.place) == wave);
    }

    float share(int v) {
        version(v);
        int all = Integer.bitCount(set(now::planned));
        int some = Integer.bitCount(set(m -> now.planned(m) && m.next == null && m.version == v));
        return all == 0 ? 0.0f : (float) some / (float) all;
    }

    double meanMeasure() {
        return now.mean();
    }

    int whyNotCommit(int format) {
        argument(format, 1, 9);
        if (format <= now.format) {
            return 1;
        }
        for (Member m : now.members) {
            if (!now.reads(m.coming(), format)) {
                return 2;
            }
        }
        return 0;
    }

    int highestFormat() {
        int best = -1;
        for (int f = 1; f <= 9; f++) {
            boolean isRead = !now.members.isEmpty();
            for (Member m : now.members) {
                isRead &= now.reads(m.coming(), f);
            }
            best = isRead ? f : best;
        }
        return best;
    }

    int wayBack() {
        int v = -1;
        for (Member m : now.members) {
            v = v < 0 ? m.coming() : Math.min(v, m.coming());
        }
        while (v > 0 && now.reads(v - 1, now.format) && now.talk(v, v - 1)) {
            v--;
        }
        return v;
    }

    // ---- what will be

    private static int minutes(Cluster c, int limit) {
        for (int k = 0; k <= limit; k++) {
            if (c.plan.equals("done")) {
                return k;
            }
            c.minute();
        }
        return -1;
    }

    int minutesToEnd(int limit) {
        argument(limit, 0, 2000);
        return minutes(now.copy(), limit);
    }

    int minutesIfFree(int k) {
        memberAt(k);
        Cluster c = now.copy();
        c.members.get(k).held = false;
        return minutes(c, 2000);
    }

    int bestToFree() {
        int best = -1;
        for (int k = now.members.size() - 1; k >= 0; k--) {
            if (now.members.get(k).held && minutesIfFree(k) >= 0
                    && (best < 0 || minutesIfFree(k) <= minutesIfFree(best))) {
                best = k;
            }
        }
        return best;
    }

    int changesIn(int minutes) {
        argument(minutes, 0, 2000);
        Cluster c = now.copy();
        c.begun = 0;
        for (int k = 0; k < minutes; k++) {
            c.minute();
        }
        return c.begun;
    }

    boolean wouldStop(int k, int measure) {
        memberAt(k);
        argument(measure, 0, 999);
        Cluster c = now.copy();
        c.members.get(k).measure = measure;
        c.minute();
        return !now.plan.equals("stopped") && c.plan.equals("stopped");
    }

    int events() {
        return now.events.size();
    }

    int event(int i, int what) {
        index(i, now.events.size());
        argument(what, 0, 3);
        return now.events.get(i)[what];
    }

    // ---- changes

    private void keep(Cluster before) {
        undos.addFirst(before);
        while (undos.size() > 6) {
            undos.removeLast();
        }
    }

    int pass(int minutes) {
        argument(minutes, 0, 999);
        argument(now.clock + minutes, 0, 20000);
        keep(now.copy());
        for (int k = 0; k < minutes; k++) {
            now.minute();
        }
        return now.clock;
    }

    private static void state(boolean isGood) {
        if (!isGood) {
            throw new IllegalStateException();
        }
    }

    int start(int v) {
        version(v);
        state(!now.waves.isEmpty() && !now.isActive());
        keep(now.copy());
        now.tell(2, -1, v);
        now.target = v;
        int low = 99;
        int high = -1;
        for (Member m : now.members) {
            if (now.planned(m) && !m.held) {
                low = Math.min(low, m.coming());
                high = Math.max(high, m.coming());
            }
        }
        if (high < 0 || low == v && high == v) {
            now.done();
            return -1;
        }
        now.up = low < v;
        now.step = now.up ? low + 1 : high - 1;
        now.wave = 0;
        now.plan = "rolling";
        return now.step;
    }

    int stop() {
        state(now.isActive());
        keep(now.copy());
        now.halt();
        return now.wave;
    }

    int go() {
        state(now.plan.equals("stopped"));
        keep(now.copy());
        now.plan = now.wasSoaking ? "soaking" : "rolling";
        now.tell(5, -1, now.wave);
        return now.wave;
    }

    int hold(int k, boolean isHeld) {
        state(memberAt(k).held != isHeld);
        keep(now.copy());
        memberAt(k).held = isHeld;
        now.tell(8, k, isHeld ? 1 : 0);
        return Integer.bitCount(set(m -> m.held));
    }

    int report(int k, int measure) {
        memberAt(k);
        argument(measure, 0, 999);
        state(memberAt(k).next == null);
        keep(now.copy());
        int before = memberAt(k).measure;
        memberAt(k).measure = measure;
        return before;
    }

    int change(int k, int v) {
        memberAt(k);
        version(v);
        state(now.reason(memberAt(k), v) == 0);
        keep(now.copy());
        now.begin(memberAt(k), v);
        return memberAt(k).upAt;
    }

    int commit(int format) {
        argument(format, 1, 9);
        state(whyNotCommit(format) == 0);
        keep(now.copy());
        int before = now.format;
        now.format = format;
        now.tell(7, -1, format);
        return before;
    }

    // ---- reports, undo, a saved cluster

    int writeReport() {
        report = "";
        for (Member m : now.members) {
            report += m.name + " " + now.versions.get(m.version).name
                    + (m.next == null ? "" : ">" + now.versions.get(m.next).name) + (m.held ? "!" : "") + "\n";
        }
        return report.length();
    }

    int reportByte(int i) {
        index(i, report == null ? 0 : report.length());
        return report.charAt(i);
    }

    int undo() {
        if (undos.isEmpty()) {
            return -1;
        }
        now = undos.removeFirst();
        return undos.size();
    }

    int save() {
        saved = now.copy();
        return now.clock;
    }

    int restore() {
        state(saved != null);
        now = saved.copy();
        undos.clear();
        return now.clock;
    }
}
