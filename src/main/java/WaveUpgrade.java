/**
 * The upgrade of a cluster by waves. What it promises stands in ../shared/DOC.md; "promise" and
 * "section" in the comments mean those of that document.
 */
public final class WaveUpgrade {
    public static final int NONE = -1;

    private static final int MOST_BYTES = 900;
    private static final int MOST_VERSIONS = 8;
    private static final int MOST_PLACES = 5;
    private static final int MOST_MEMBERS = 12;
    private static final int MOST_WAVES = 5;
    private static final int MOST_LINKS = 20;
    private static final int MOST_EVENTS = 30;
    private static final int MOST_UNDOS = 6;
    private static final int MOST_COMMANDS = 30;
    private static final int MOST_DONE = 40;
    private static final int MOST_NESTED = 2;
    private static final int MOST_CLOCK = 20000;
    private static final int MOST_MINUTES = 999;
    private static final int MOST_MEASURE = 999;
    private static final int MOST_AHEAD = 2000;
    private static final int MOST_FORMAT = 9;
    /** A member's name, its two versions and four single bytes. */
    private static final int MOST_ROW_BYTES = 28;

    private static final int PLAN_NONE = 0;
    private static final int PLAN_ROLLING = 1;
    private static final int PLAN_SOAKING = 2;
    private static final int PLAN_STOPPED = 3;
    private static final int PLAN_DONE = 4;

    private static final int EVENT_BEGINS = 0;
    private static final int EVENT_ENDS = 1;
    private static final int EVENT_STARTS = 2;
    private static final int EVENT_SOAKS = 3;
    private static final int EVENT_STOPPED = 4;
    private static final int EVENT_GOES_ON = 5;
    private static final int EVENT_DONE = 6;
    private static final int EVENT_COMMITTED = 7;
    private static final int EVENT_HELD = 8;

    private static final int BAD_TOKEN = 1;
    private static final int BAD_NUMBER = 2;
    private static final int BAD_NAME = 3;
    private static final int BAD_REPETITION = 4;
    private static final int BAD_VERSION = 5;
    private static final int BAD_COUNT = 6;

    private final Text text = new Text();
    private final State state = new State(new Layout());
    /** Shares the layout of the state: what will be is tried out on it. */
    private final State trial = new State(state.layout);
    private final State draft = new State(new Layout());
    private final State saved = new State(new Layout());
    private boolean isSaved = false;
    private final History history = new History(state.layout);
    private final ClusterReader reader = new ClusterReader(text, draft);
    private final Program program = new Program();
    private final byte[] reportRow = new byte[MOST_MEMBERS * MOST_ROW_BYTES];
    private int reportLength = 0;

    public WaveUpgrade() {
    }

    // ---- texts

    public int feed(int a, int b, int c, int d, int e) throws IllegalStateException {
        if (text.length + 20 > MOST_BYTES) {
            throw new IllegalStateException();
        }
        text.append(a);
        text.append(b);
        text.append(c);
        text.append(d);
        text.append(e);
        return text.length;
    }

    public int truncate(int n) throws IllegalArgumentException {
        if (n < 0 || n > text.length) {
            throw new IllegalArgumentException();
        }
        text.length = n;
        return n;
    }

    public int readText() throws IllegalArgumentException {
        boolean isGood = reader.readAll();
        text.length = 0;
        if (!isGood) {
            throw new IllegalArgumentException();
        }
        state.replaceBy(draft);
        history.forget();
        return state.layout.members.count;
    }

    public int runScript() throws IllegalArgumentException {
        boolean isGood = program.readAll(text, state.layout);
        text.length = 0;
        if (!isGood) {
            throw new IllegalArgumentException();
        }
        history.keep(state);
        int done = 0;
        while (done < MOST_DONE) {
            int at = program.next();
            if (at == NONE || !state.obey(program, at)) {
                return done;
            }
            done++;
        }
        return done;
    }

    public int errorCode() {
        return text.errorCode;
    }

    public int errorPosition() {
        return text.errorPosition;
    }

    // ---- versions

    public int setting(int what) throws IllegalArgumentException {
        if (what < 0 || what > 11) {
            throw new IllegalArgumentException();
        }
        if (what == 5) {
            return state.format;
        }
        if (what == 11) {
            return state.clock;
        }
        return state.layout.numberOf(what);
    }

    public boolean mayTalk(int version, int other) throws IndexOutOfBoundsException {
        needVersion(version);
        needVersion(other);
        return isIn(state.layout.talkersOf(version), other);
    }

    public int readers(int format) throws IllegalArgumentException {
        needFormat(format);
        return state.layout.readersOf(format);
    }

    public int talkers(int version) throws IndexOutOfBoundsException {
        needVersion(version);
        return state.layout.talkersOf(version);
    }

    public int wayOf(int version, int other) throws IndexOutOfBoundsException {
        needVersion(version);
        needVersion(other);
        return state.changesOnWay(version, other);
    }

    public int nextOnWay(int version, int other) throws IndexOutOfBoundsException {
        needVersion(version);
        needVersion(other);
        return state.firstOnWay(version, other);
    }

    // ---- members

    public int member(int member, int what) throws IndexOutOfBoundsException, IllegalArgumentException {
        needMember(member);
        if (what < 0 || what > 6) {
            throw new IllegalArgumentException();
        }
        return state.numberOfMember(member, what);
    }

    public int partners(int member) throws IndexOutOfBoundsException {
        needMember(member);
        return state.layout.partnersOf[member];
    }

    public int with(int version) throws IndexOutOfBoundsException {
        needVersion(version);
        return state.upWith(version);
    }

    public int down(int place) throws IndexOutOfBoundsException {
        if (place < 0 || place >= state.layout.places.count) {
            throw new IndexOutOfBoundsException();
        }
        return state.layout.placeSets[place] & state.downSet;
    }

    public int skewNow() {
        int all = state.layout.everyMember();
        return all == 0 ? 0 : state.highestComing(all) - state.lowestComing(all);
    }

    public int reason(int member, int version) throws IndexOutOfBoundsException {
        needMember(member);
        needVersion(version);
        return state.whyNotBegin(member, version);
    }

    public int open(int member) throws IndexOutOfBoundsException {
        needMember(member);
        int set = 0;
        for (int version = 0; version < state.layout.versions.count; version++) {
            if (state.whyNotBegin(member, version) == 0) {
                set |= 1 << version;
            }
        }
        return set;
    }

    public int against(int member, int version) throws IndexOutOfBoundsException {
        needMember(member);
        needVersion(version);
        return state.opponents(member, version);
    }

    public int mixed() {
        return state.mixedPairs();
    }

    // ---- the plan

    public int plan(int what) throws IllegalArgumentException {
        if (what < 0 || what > 4) {
            throw new IllegalArgumentException();
        }
        return state.numberOfPlan(what);
    }

    public int lagging() {
        return state.laggards();
    }

    public int blocked() {
        int set = 0;
        int candidates = state.laggards() & ~state.downSet;
        for (int member = 0; member < state.layout.members.count; member++) {
            if (isIn(candidates, member) && state.whyNotBegin(member, state.step) != 0) {
                set |= 1 << member;
            }
        }
        return set;
    }

    public int inWave(int wave) throws IndexOutOfBoundsException {
        if (wave < 0 || wave >= state.layout.waves) {
            throw new IndexOutOfBoundsException();
        }
        return state.layout.waveSets[wave];
    }

    public float share(int version) throws IndexOutOfBoundsException {
        needVersion(version);
        int planned = state.layout.plannedMembers();
        if (planned == 0) {
            return 0.0f;
        }
        int such = state.upWith(version) & planned;
        return (float) Integer.bitCount(such) / (float) Integer.bitCount(planned);
    }

    public double meanMeasure() {
        int counted = state.isUnderWay() ? state.measuredSet() : 0;
        if (counted == 0) {
            return 0.0;
        }
        return (double) state.sumOfMeasures(counted) / (double) Integer.bitCount(counted);
    }

    // ---- the format

    public int whyNotCommit(int format) throws IllegalArgumentException {
        needFormat(format);
        return state.whyNotFormat(format);
    }

    public int highestFormat() {
        if (state.layout.members.count == 0) {
            return NONE;
        }
        for (int format = MOST_FORMAT; format >= 1; format--) {
            if (state.isReadByAll(format)) {
                return format;
            }
        }
        return NONE;
    }

    public int wayBack() {
        return state.lowestWayBack();
    }

    // ---- what will be if only minutes pass

    public int minutesToEnd(int limit) throws IllegalArgumentException {
        needAhead(limit);
        trial.copyFrom(state);
        return trial.minutesToDone(limit);
    }

    public int minutesIfFree(int member) throws IndexOutOfBoundsException {
        needMember(member);
        return minutesWhenFreed(member);
    }

    public int bestToFree() {
        int best = NONE;
        int least = MOST_AHEAD + 1;
        for (int member = 0; member < state.layout.members.count; member++) {
            int minutes = isIn(state.held, member) ? minutesWhenFreed(member) : NONE;
            if (minutes != NONE && minutes < least) {
                best = member;
                least = minutes;
            }
        }
        return best;
    }

    public int changesIn(int minutes) throws IllegalArgumentException {
        needAhead(minutes);
        trial.copyFrom(state);
        return trial.changesWithin(minutes);
    }

    public boolean wouldStop(int member, int measure)
            throws IndexOutOfBoundsException, IllegalArgumentException {
        needMember(member);
        needMeasure(measure);
        if (!state.isActive()) {
            return false;
        }
        trial.copyFrom(state);
        trial.measure[member] = measure;
        trial.passMinute();
        return trial.planState == PLAN_STOPPED;
    }

    // ---- events

    public int events() {
        return state.events.count;
    }

    public int event(int i, int what) throws IndexOutOfBoundsException, IllegalArgumentException {
        if (i < 0 || i >= state.events.count) {
            throw new IndexOutOfBoundsException();
        }
        if (what < 0 || what >= Events.CELLS) {
            throw new IllegalArgumentException();
        }
        return state.events.cellOf(i, what);
    }

    // ---- changes

    public int pass(int minutes) throws IllegalArgumentException {
        if (!state.canPass(minutes)) {
            throw new IllegalArgumentException();
        }
        history.keep(state);
        return state.passMinutes(minutes);
    }

    public int start(int version) throws IndexOutOfBoundsException, IllegalStateException {
        needVersion(version);
        if (!state.canStart()) {
            throw new IllegalStateException();
        }
        history.keep(state);
        return state.startPlan(version);
    }

    public int stop() throws IllegalStateException {
        if (!state.isActive()) {
            throw new IllegalStateException();
        }
        history.keep(state);
        return state.stopPlan();
    }

    public int go() throws IllegalStateException {
        if (state.planState != PLAN_STOPPED) {
            throw new IllegalStateException();
        }
        history.keep(state);
        return state.resumePlan();
    }

    public int hold(int member, boolean isHeld) throws IndexOutOfBoundsException, IllegalStateException {
        needMember(member);
        if (isIn(state.held, member) == isHeld) {
            throw new IllegalStateException();
        }
        history.keep(state);
        return state.setHeld(member, isHeld);
    }

    public int report(int member, int measure)
            throws IndexOutOfBoundsException, IllegalArgumentException, IllegalStateException {
        needMember(member);
        needMeasure(measure);
        if (!state.isUp(member)) {
            throw new IllegalStateException();
        }
        history.keep(state);
        return state.setMeasure(member, measure);
    }

    public int change(int member, int version) throws IndexOutOfBoundsException, IllegalStateException {
        needMember(member);
        needVersion(version);
        if (state.whyNotBegin(member, version) != 0) {
            throw new IllegalStateException();
        }
        history.keep(state);
        return state.beginChange(member, version);
    }

    public int commit(int format) throws IllegalArgumentException, IllegalStateException {
        needFormat(format);
        if (state.whyNotFormat(format) != 0) {
            throw new IllegalStateException();
        }
        history.keep(state);
        return state.setFormat(format);
    }

    // ---- reports, undo, a saved cluster

    public int writeReport() {
        reportLength = 0;
        for (int member = 0; member < state.layout.members.count; member++) {
            writeName(state.layout.members.nameOf(member));
            writeByte(' ');
            writeName(state.layout.versions.nameOf(state.version[member]));
            if (!state.isUp(member)) {
                writeByte('>');
                writeName(state.layout.versions.nameOf(state.coming[member]));
            }
            if (isIn(state.held, member)) {
                writeByte('!');
            }
            writeByte('\n');
        }
        return reportLength;
    }

    public int reportByte(int i) throws IndexOutOfBoundsException {
        if (i < 0 || i >= reportLength) {
            throw new IndexOutOfBoundsException();
        }
        return reportRow[i];
    }

    public int undo() {
        if (history.count == 0) {
            return NONE;
        }
        history.takeBack(state);
        return history.count;
    }

    public int save() {
        saved.replaceBy(state);
        isSaved = true;
        return state.clock;
    }

    public int restore() throws IllegalStateException {
        if (!isSaved) {
            throw new IllegalStateException();
        }
        state.replaceBy(saved);
        history.forget();
        return state.clock;
    }

    // ---- helpers of the calls

    private void needVersion(int version) {
        if (version < 0 || version >= state.layout.versions.count) {
            throw new IndexOutOfBoundsException();
        }
    }

    private void needMember(int member) {
        if (member < 0 || member >= state.layout.members.count) {
            throw new IndexOutOfBoundsException();
        }
    }

    private static void needFormat(int format) {
        if (format < 1 || format > MOST_FORMAT) {
            throw new IllegalArgumentException();
        }
    }

    private static void needMeasure(int measure) {
        if (measure < 0 || measure > MOST_MEASURE) {
            throw new IllegalArgumentException();
        }
    }

    private static void needAhead(int minutes) {
        if (minutes < 0 || minutes > MOST_AHEAD) {
            throw new IllegalArgumentException();
        }
    }

    private int minutesWhenFreed(int member) {
        trial.copyFrom(state);
        trial.held &= ~(1 << member);
        return trial.minutesToDone(MOST_AHEAD);
    }

    private void writeName(long name) {
        for (int shift = 56; shift >= 0; shift -= 8) {
            int letter = (int) (name >> shift) & 255;
            if (letter != 0) {
                writeByte(letter);
            }
        }
    }

    private void writeByte(int value) {
        if (reportLength < reportRow.length) {
            reportRow[reportLength] = (byte) value;
            reportLength++;
        }
    }

    private static boolean isIn(int set, int number) {
        return (set >> number & 1) != 0;
    }

    private static void copyRow(int[] from, int[] to) {
        System.arraycopy(from, 0, to, 0, Math.min(from.length, to.length));
    }

    /** The names of one sort, each packed into a long (a byte for a letter), numbered from 0. */
    private static final class Names {
        final long[] row;
        int count = 0;

        Names(int most) {
            row = new long[most];
        }

        void copyFrom(Names other) {
            System.arraycopy(other.row, 0, row, 0, Math.min(other.row.length, row.length));
            count = other.count;
        }

        boolean isFull() {
            return count >= row.length;
        }

        int numberOf(long name) {
            for (int i = 0; i < count; i++) {
                if (row[i] == name) {
                    return i;
                }
            }
            return NONE;
        }

        long nameOf(int number) {
            return number >= 0 && number < count ? row[number] : 0;
        }

        void add(long name) {
            if (count < row.length) {
                row[count] = name;
                count++;
            }
        }
    }

    /** What a text fixes for good; what changes later is in the State. */
    private static final class Layout {
        final Names versions = new Names(MOST_VERSIONS);
        final int[] lowest = new int[MOST_VERSIONS];
        final int[] highest = new int[MOST_VERSIONS];
        final int[] talkSets = new int[MOST_VERSIONS];
        final Names places = new Names(MOST_PLACES);
        final int[] waveOfPlace = new int[MOST_PLACES];
        /** The members of each place and of each wave. */
        final int[] placeSets = new int[MOST_PLACES];
        final int[] waveSets = new int[MOST_WAVES];
        final Names members = new Names(MOST_MEMBERS);
        final int[] placeOf = new int[MOST_MEMBERS];
        final int[] partnersOf = new int[MOST_MEMBERS];
        int links;
        int waves;
        int skew;
        int mostDown;
        int takes;
        int soak;
        int limit;

        Layout() {
            reset();
        }

        void reset() {
            versions.count = 0;
            places.count = 0;
            members.count = 0;
            links = 0;
            waves = 0;
            skew = 1;
            mostDown = 1;
            takes = 5;
            soak = 10;
            limit = 50;
        }

        void copyFrom(Layout other) {
            versions.copyFrom(other.versions);
            copyRow(other.lowest, lowest);
            copyRow(other.highest, highest);
            copyRow(other.talkSets, talkSets);
            places.copyFrom(other.places);
            copyRow(other.waveOfPlace, waveOfPlace);
            copyRow(other.placeSets, placeSets);
            copyRow(other.waveSets, waveSets);
            members.copyFrom(other.members);
            copyRow(other.placeOf, placeOf);
            copyRow(other.partnersOf, partnersOf);
            links = other.links;
            waves = other.waves;
            skew = other.skew;
            mostDown = other.mostDown;
            takes = other.takes;
            soak = other.soak;
            limit = other.limit;
        }

        /** The numbers of promise 8 but those that a State has. */
        int numberOf(int what) {
            switch (what) {
                case 0: return versions.count;
                case 1: return places.count;
                case 2: return members.count;
                case 3: return waves;
                case 4: return links;
                case 6: return skew;
                case 7: return mostDown;
                case 8: return takes;
                case 9: return soak;
                case 10: return limit;
                default: return NONE;
            }
        }

        void addVersion(long name, int lowestFormat, int highestFormat) {
            int version = versions.count;
            if (version < MOST_VERSIONS) {
                versions.add(name);
                lowest[version] = lowestFormat;
                highest[version] = highestFormat;
                talkSets[version] = 1 << version;
            }
        }

        void addTalk(int version, int other) {
            talkSets[version] |= 1 << other;
            talkSets[other] |= 1 << version;
        }

        void addPlace(long name) {
            int place = places.count;
            if (place < MOST_PLACES) {
                places.add(name);
                waveOfPlace[place] = NONE;
                placeSets[place] = 0;
            }
        }

        void addWave() {
            if (waves < MOST_WAVES) {
                waveSets[waves] = 0;
                waves++;
            }
        }

        /** Members of the place may be there already, and others may come later. */
        void addToWave(int place, int wave) {
            waveOfPlace[place] = wave;
            waveSets[wave] |= placeSets[place];
        }

        void addMember(long name, int place) {
            int member = members.count;
            if (member >= MOST_MEMBERS) {
                return;
            }
            members.add(name);
            placeOf[member] = place;
            partnersOf[member] = 0;
            for (int other = 0; other < member; other++) {
                if (placeOf[other] == place) {
                    join(member, other);
                }
            }
            placeSets[place] |= 1 << member;
            int wave = waveOfPlace[place];
            if (wave >= 0 && wave < waves) {
                waveSets[wave] |= 1 << member;
            }
        }

        void addLink(int member, int other) {
            join(member, other);
            links++;
        }

        private void join(int member, int other) {
            partnersOf[member] |= 1 << other;
            partnersOf[other] |= 1 << member;
        }

        int talkersOf(int version) {
            return version >= 0 && version < versions.count ? talkSets[version] : 0;
        }

        boolean isReader(int version, int format) {
            return version >= 0 && version < versions.count
                    && lowest[version] <= format && format <= highest[version];
        }

        int readersOf(int format) {
            int set = 0;
            for (int version = 0; version < versions.count; version++) {
                if (isReader(version, format)) {
                    set |= 1 << version;
                }
            }
            return set;
        }

        int everyMember() {
            return (1 << members.count) - 1;
        }

        /** The members of a member's place, itself too. */
        int neighboursOf(int member) {
            int place = placeOf[member];
            return place >= 0 && place < places.count ? placeSets[place] : 0;
        }

        int waveOf(int member) {
            int place = placeOf[member];
            return place >= 0 && place < places.count ? waveOfPlace[place] : NONE;
        }

        int plannedMembers() {
            int set = 0;
            for (int wave = 0; wave < waves; wave++) {
                set |= waveSets[wave];
            }
            return set;
        }
    }

    /** The latest events, in a ring. */
    private static final class Events {
        static final int CELLS = 4;

        final int[] cells = new int[MOST_EVENTS * CELLS];
        int count = 0;
        int newest = 0;

        void copyFrom(Events other) {
            copyRow(other.cells, cells);
            count = other.count;
            newest = other.newest;
        }

        void add(int minute, int kind, int member, int number) {
            newest = (newest + 1) % MOST_EVENTS;
            int first = newest * CELLS;
            cells[first] = minute;
            cells[first + 1] = kind;
            cells[first + 2] = member;
            cells[first + 3] = number;
            count = Math.min(count + 1, MOST_EVENTS);
        }

        /** The latest event is number 0. */
        int cellOf(int number, int what) {
            int row = Math.floorMod(newest - number, MOST_EVENTS);
            return cells[row * CELLS + what];
        }
    }

    /** What changes: the clock, the format, the members, the plan and the events. */
    private static final class State {
        final Layout layout;
        int clock;
        int format;
        final int[] version = new int[MOST_MEMBERS];
        /** The version itself while a member is up. */
        final int[] coming = new int[MOST_MEMBERS];
        /** NONE while a member is up. */
        final int[] upAt = new int[MOST_MEMBERS];
        final int[] measure = new int[MOST_MEMBERS];
        int downSet;
        int held;
        int planState;
        int target;
        int step;
        boolean goesUp;
        int wave;
        /** NONE unless it is soaking, or was when it was stopped. */
        int soakEnd;
        final Events events = new Events();

        State(Layout layout) {
            this.layout = layout;
            reset();
        }

        void reset() {
            clock = 0;
            format = 1;
            downSet = 0;
            held = 0;
            planState = PLAN_NONE;
            target = NONE;
            step = NONE;
            goesUp = false;
            wave = NONE;
            soakEnd = NONE;
            events.count = 0;
        }

        /** Of a state of the same layout. */
        void copyFrom(State other) {
            clock = other.clock;
            format = other.format;
            copyRow(other.version, version);
            copyRow(other.coming, coming);
            copyRow(other.upAt, upAt);
            copyRow(other.measure, measure);
            downSet = other.downSet;
            held = other.held;
            planState = other.planState;
            target = other.target;
            step = other.step;
            goesUp = other.goesUp;
            wave = other.wave;
            soakEnd = other.soakEnd;
            events.copyFrom(other.events);
        }

        void replaceBy(State other) {
            layout.copyFrom(other.layout);
            copyFrom(other);
        }

        void addMember(long name, int place, int itsVersion, boolean isHeld) {
            int member = layout.members.count;
            if (member < MOST_MEMBERS) {
                layout.addMember(name, place);
                version[member] = itsVersion;
                coming[member] = itsVersion;
                upAt[member] = NONE;
                measure[member] = 0;
                held |= isHeld ? 1 << member : 0;
            }
        }

        /** Whether a next member of the text may have this version in this place. */
        boolean canJoin(int place, int itsVersion) {
            int talkers = layout.talkersOf(itsVersion);
            boolean isGood = layout.isReader(itsVersion, format);
            for (int other = 0; other < layout.members.count; other++) {
                isGood &= Math.abs(version[other] - itsVersion) <= layout.skew
                        && (layout.placeOf[other] != place || isIn(talkers, version[other]));
            }
            return isGood;
        }

        // ---- versions

        /** The versions that may be next to a version on a way. */
        private int nextVersions(int from) {
            int set = layout.readersOf(format) & layout.talkersOf(from) & ~(1 << from);
            for (int to = 0; to < layout.versions.count; to++) {
                if (Math.abs(to - from) > layout.skew) {
                    set &= ~(1 << to);
                }
            }
            return set;
        }

        int changesOnWay(int from, int to) {
            int reached = 1 << from;
            for (int changes = 0; changes < layout.versions.count; changes++) {
                if (isIn(reached, to)) {
                    return changes;
                }
                int more = reached;
                for (int each = 0; each < layout.versions.count; each++) {
                    more |= isIn(reached, each) ? nextVersions(each) : 0;
                }
                reached = more;
            }
            return NONE;
        }

        int firstOnWay(int from, int to) {
            int changes = changesOnWay(from, to);
            int candidates = changes > 0 ? nextVersions(from) : 0;
            for (int each = 0; each < layout.versions.count; each++) {
                if (isIn(candidates, each) && changesOnWay(each, to) == changes - 1) {
                    return each;
                }
            }
            return NONE;
        }

        // ---- members

        boolean isUp(int member) {
            return upAt[member] == NONE;
        }

        int upWith(int itsVersion) {
            int set = 0;
            for (int member = 0; member < layout.members.count; member++) {
                if (version[member] == itsVersion) {
                    set |= 1 << member;
                }
            }
            return set & ~downSet;
        }

        /** The numbers of promise 14. */
        int numberOfMember(int member, int what) {
            switch (what) {
                case 0: return layout.placeOf[member];
                case 1: return version[member];
                case 2: return isUp(member) ? NONE : coming[member];
                case 3: return upAt[member];
                case 4: return measure[member];
                case 5: return isIn(held, member) ? 1 : 0;
                case 6: return layout.waveOf(member);
                default: return NONE;
            }
        }

        int lowestComing(int set) {
            int least = MOST_VERSIONS;
            for (int member = 0; member < layout.members.count; member++) {
                if (isIn(set, member)) {
                    least = Math.min(least, coming[member]);
                }
            }
            return least;
        }

        int highestComing(int set) {
            int most = NONE;
            for (int member = 0; member < layout.members.count; member++) {
                if (isIn(set, member)) {
                    most = Math.max(most, coming[member]);
                }
            }
            return most;
        }

        /** The reasons of section 2. */
        int whyNotBegin(int member, int to) {
            if (isIn(held, member)) {
                return 1;
            }
            if (!isUp(member)) {
                return 2;
            }
            if (version[member] == to) {
                return 3;
            }
            if (!layout.isReader(to, format)) {
                return 4;
            }
            int downThere = layout.neighboursOf(member) & downSet;
            if (Integer.bitCount(downThere) >= layout.mostDown) {
                return 5;
            }
            for (int other = 0; other < layout.members.count; other++) {
                if (other != member && Math.abs(coming[other] - to) > layout.skew) {
                    return 6;
                }
            }
            return opponents(member, to) == 0 ? 0 : 7;
        }

        int opponents(int member, int to) {
            int talkers = layout.talkersOf(to);
            int set = layout.partnersOf[member];
            for (int other = 0; other < layout.members.count; other++) {
                if (isIn(talkers, coming[other])) {
                    set &= ~(1 << other);
                }
            }
            return set;
        }

        int mixedPairs() {
            int twice = 0;
            for (int member = 0; member < layout.members.count; member++) {
                if (isUp(member)) {
                    int others = layout.partnersOf[member] & ~downSet & ~upWith(version[member]);
                    twice += Integer.bitCount(others);
                }
            }
            return twice / 2;
        }

        int beginChange(int member, int to) {
            coming[member] = to;
            upAt[member] = clock + layout.takes;
            downSet |= 1 << member;
            events.add(clock, EVENT_BEGINS, member, to);
            return upAt[member];
        }

        private void endChanges() {
            for (int member = 0; member < layout.members.count; member++) {
                if (upAt[member] == clock) {
                    upAt[member] = NONE;
                    downSet &= ~(1 << member);
                    version[member] = coming[member];
                    measure[member] = 0;
                    events.add(clock, EVENT_ENDS, member, version[member]);
                }
            }
        }

        int setHeld(int member, boolean isHeld) {
            held = isHeld ? held | 1 << member : held & ~(1 << member);
            events.add(clock, EVENT_HELD, member, isHeld ? 1 : 0);
            return Integer.bitCount(held);
        }

        int setMeasure(int member, int value) {
            int before = measure[member];
            measure[member] = value;
            return before;
        }

        // ---- the format

        boolean isReadByAll(int itsFormat) {
            int readers = layout.readersOf(itsFormat);
            for (int member = 0; member < layout.members.count; member++) {
                if (!isIn(readers, coming[member])) {
                    return false;
                }
            }
            return true;
        }

        /** The reasons of section 5. */
        int whyNotFormat(int itsFormat) {
            if (itsFormat <= format) {
                return 1;
            }
            return isReadByAll(itsFormat) ? 0 : 2;
        }

        int setFormat(int itsFormat) {
            int before = format;
            format = itsFormat;
            events.add(clock, EVENT_COMMITTED, NONE, itsFormat);
            return before;
        }

        int lowestWayBack() {
            if (layout.members.count == 0) {
                return NONE;
            }
            int back = lowestComing(layout.everyMember());
            while (back > 0 && layout.isReader(back - 1, format)
                    && isIn(layout.talkersOf(back), back - 1)) {
                back--;
            }
            return back;
        }

        // ---- the plan

        boolean isActive() {
            return planState == PLAN_ROLLING || planState == PLAN_SOAKING;
        }

        boolean isUnderWay() {
            return planState != PLAN_NONE && planState != PLAN_DONE;
        }

        /** The numbers of promise 23. */
        int numberOfPlan(int what) {
            if (what == 0) {
                return planState;
            }
            if (!isUnderWay()) {
                return NONE;
            }
            switch (what) {
                case 1: return target;
                case 2: return step;
                case 3: return wave;
                case 4: return soakEnd;
                default: return NONE;
            }
        }

        boolean canStart() {
            return layout.waves > 0 && !isActive();
        }

        int startPlan(int to) {
            int free = layout.plannedMembers() & ~held;
            int low = lowestComing(free);
            int high = highestComing(free);
            events.add(clock, EVENT_STARTS, NONE, to);
            target = to;
            soakEnd = NONE;
            if (free == 0 || (low == to && high == to)) {
                finishPlan();
                return NONE;
            }
            goesUp = low < to;
            step = goesUp ? low + 1 : high - 1;
            wave = 0;
            planState = PLAN_ROLLING;
            return step;
        }

        private void finishPlan() {
            planState = PLAN_DONE;
            soakEnd = NONE;
            events.add(clock, EVENT_DONE, NONE, target);
        }

        int stopPlan() {
            planState = PLAN_STOPPED;
            events.add(clock, EVENT_STOPPED, NONE, wave);
            return wave;
        }

        int resumePlan() {
            planState = soakEnd == NONE ? PLAN_ROLLING : PLAN_SOAKING;
            events.add(clock, EVENT_GOES_ON, NONE, wave);
            return wave;
        }

        /** Those of a set, held back or not, that are up with a version that is good for the step. */
        private int reachedOf(int set) {
            int reached = set & ~downSet;
            for (int member = 0; member < layout.members.count; member++) {
                if (goesUp ? version[member] < step : version[member] > step) {
                    reached &= ~(1 << member);
                }
            }
            return reached;
        }

        int measuredSet() {
            return reachedOf(layout.plannedMembers());
        }

        int sumOfMeasures(int set) {
            int sum = 0;
            for (int member = 0; member < layout.members.count; member++) {
                sum += isIn(set, member) ? measure[member] : 0;
            }
            return sum;
        }

        int laggards() {
            if (!isUnderWay() || wave < 0 || wave >= layout.waves) {
                return 0;
            }
            int all = layout.waveSets[wave];
            return all & ~reachedOf(all);
        }

        // ---- minutes

        boolean canPass(int minutes) {
            return minutes >= 0 && minutes <= MOST_MINUTES && clock + minutes <= MOST_CLOCK;
        }

        int passMinutes(int minutes) {
            for (int i = 0; i < minutes; i++) {
                passMinute();
            }
            return clock;
        }

        /** The five parts of section 4; returns how many changes began. */
        int passMinute() {
            int begun = 0;
            clock++;
            endChanges();
            if (isActive() && isOverLimit()) {
                stopPlan();
            }
            if (planState == PLAN_SOAKING && clock >= soakEnd) {
                leaveWave();
            }
            if (planState == PLAN_ROLLING) {
                begun = beginChanges();
                soakIfComplete();
            }
            return begun;
        }

        private boolean isOverLimit() {
            int counted = measuredSet();
            // Multiplied out, so that no fraction of the mean is lost.
            return sumOfMeasures(counted) > layout.limit * Integer.bitCount(counted);
        }

        private void leaveWave() {
            boolean isLast = wave + 1 >= layout.waves;
            if (isLast && step == target) {
                finishPlan();
                return;
            }
            if (isLast) {
                step += goesUp ? 1 : -1;
            }
            wave = isLast ? 0 : wave + 1;
            soakEnd = NONE;
            planState = PLAN_ROLLING;
        }

        private int beginChanges() {
            int begun = 0;
            int candidates = laggards() & ~downSet & ~held;
            for (int member = 0; member < layout.members.count; member++) {
                if (isIn(candidates, member) && whyNotBegin(member, step) == 0) {
                    beginChange(member, step);
                    begun++;
                }
            }
            return begun;
        }

        private void soakIfComplete() {
            if ((laggards() & ~held) == 0) {
                planState = PLAN_SOAKING;
                soakEnd = clock + layout.soak;
                events.add(clock, EVENT_SOAKS, NONE, wave);
            }
        }

        // ---- commands of a script

        /** Answers false, and changes nothing, where the command's method would throw. */
        boolean obey(Program program, int at) {
            Command command = program.commands[at];
            int member = program.member[at];
            int to = program.version[at];
            int number = program.number[at];
            if (command == null || !isAllowed(command, member, to, number)) {
                return false;
            }
            switch (command) {
                case PASS: passMinutes(number); break;
                case START: startPlan(to); break;
                case STOP: stopPlan(); break;
                case GO: resumePlan(); break;
                case HOLD: setHeld(member, true); break;
                case FREE: setHeld(member, false); break;
                case REPORT: setMeasure(member, number); break;
                case CHANGE: beginChange(member, to); break;
                case COMMIT: setFormat(number); break;
                default: return false;
            }
            return true;
        }

        private boolean isAllowed(Command command, int member, int to, int number) {
            switch (command) {
                case PASS: return canPass(number);
                case START: return canStart();
                case STOP: return isActive();
                case GO: return planState == PLAN_STOPPED;
                case HOLD: return !isIn(held, member);
                case FREE: return isIn(held, member);
                case REPORT: return isUp(member);
                case CHANGE: return whyNotBegin(member, to) == 0;
                case COMMIT: return number <= MOST_FORMAT && whyNotFormat(number) == 0;
                default: return false;
            }
        }

        // ---- what will be: these are called for a trial alone

        int minutesToDone(int most) {
            int begun = 0;
            for (int minutes = 0; minutes <= most; minutes++) {
                if (planState == PLAN_DONE) {
                    return minutes;
                }
                if (!isActive()) {
                    return NONE;
                }
                begun = passMinute();
                if (isStuck(begun)) {
                    return NONE;
                }
            }
            return NONE;
        }

        int changesWithin(int most) {
            int sum = 0;
            for (int minutes = 0; minutes < most && isActive(); minutes++) {
                int begun = passMinute();
                sum += begun;
                if (isStuck(begun)) {
                    return sum;
                }
            }
            return sum;
        }

        /** With nobody down and nothing begun, a rolling plan meets the same reasons for ever. */
        private boolean isStuck(int begun) {
            return planState == PLAN_ROLLING && begun == 0 && downSet == 0;
        }
    }

    /** The latest states to which undo() goes back, in a ring. */
    private static final class History {
        final State[] row = new State[MOST_UNDOS];
        int count = 0;
        int newest = 0;

        History(Layout layout) {
            for (int i = 0; i < row.length; i++) {
                row[i] = new State(layout);
            }
        }

        void keep(State now) {
            newest = (newest + 1) % MOST_UNDOS;
            State kept = row[newest];
            if (kept != null) {
                kept.copyFrom(now);
                count = Math.min(count + 1, MOST_UNDOS);
            }
        }

        void takeBack(State now) {
            State kept = row[newest];
            if (kept != null && count > 0) {
                now.copyFrom(kept);
                newest = Math.floorMod(newest - 1, MOST_UNDOS);
                count--;
            }
        }

        void forget() {
            count = 0;
        }
    }

    /** The buffer, its tokens one after another, and the error that was met last. */
    private static final class Text {
        static final int END = 0;
        static final int WORD = 1;
        static final int NUMBER = 2;
        static final int SEMICOLON = 3;
        static final int OPENING = 4;
        static final int CLOSING = 5;
        static final int INVALID = 6;
        static final int MOST_LETTERS = 8;
        static final int MOST_DIGITS = 3;

        final byte[] bytes = new byte[MOST_BYTES];
        int length = 0;
        int errorCode = 0;
        int errorPosition = NONE;
        /** The present token: its kind, its first byte, and its letters packed or its value. */
        int kind = END;
        int position = 0;
        long word = 0;
        int number = 0;
        private int behind = 0;

        void append(int four) {
            for (int shift = 24; shift >= 0 && length < bytes.length; shift -= 8) {
                bytes[length] = (byte) (four >> shift);
                length++;
            }
        }

        void begin() {
            errorCode = 0;
            errorPosition = NONE;
            behind = 0;
            advance();
        }

        /** Answers false, so that a reader can return it. */
        boolean fail(int code) {
            errorCode = code;
            errorPosition = position;
            return false;
        }

        void advance() {
            while (behind < length && (bytes[behind] == ' ' || bytes[behind] == '\n')) {
                behind++;
            }
            position = behind;
            if (behind >= length) {
                kind = END;
                return;
            }
            byte first = bytes[behind];
            if (first >= 'a' && first <= 'z') {
                scanWord();
            } else if (first >= '0' && first <= '9') {
                scanNumber();
            } else {
                kind = first == ';' ? SEMICOLON : first == '(' ? OPENING : first == ')' ? CLOSING : INVALID;
                behind++;
            }
        }

        private void scanWord() {
            word = 0;
            while (behind < length && bytes[behind] >= 'a' && bytes[behind] <= 'z') {
                word = word << 8 | bytes[behind];
                behind++;
            }
            kind = behind - position <= MOST_LETTERS ? WORD : INVALID;
        }

        private void scanNumber() {
            number = 0;
            while (behind < length && bytes[behind] >= '0' && bytes[behind] <= '9') {
                number = number * 10 + (bytes[behind] - '0');
                behind++;
            }
            kind = behind - position <= MOST_DIGITS ? NUMBER : INVALID;
        }

        boolean isWord(String letters) {
            long packed = 0;
            for (int i = 0; i < letters.length(); i++) {
                packed = packed << 8 | letters.charAt(i);
            }
            return kind == WORD && word == packed;
        }

        boolean takeSign(int itsKind) {
            if (kind != itsKind) {
                return fail(BAD_TOKEN);
            }
            advance();
            return true;
        }

        /** NONE if there is an error. */
        int takeNumber(int least, int most) {
            if (kind != NUMBER) {
                fail(BAD_TOKEN);
                return NONE;
            }
            if (number < least || number > most) {
                fail(BAD_NUMBER);
                return NONE;
            }
            int taken = number;
            advance();
            return taken;
        }

        /** 0 if there is an error. */
        long takeNewName(Names names) {
            if (kind != WORD) {
                fail(BAD_TOKEN);
                return 0;
            }
            if (names.numberOf(word) != NONE) {
                fail(BAD_NAME);
                return 0;
            }
            long taken = word;
            advance();
            return taken;
        }

        /** The number of the name that stands here, which stays; NONE if there is an error. */
        int findName(Names names) {
            if (kind != WORD) {
                fail(BAD_TOKEN);
                return NONE;
            }
            int found = names.numberOf(word);
            if (found == NONE) {
                fail(BAD_NAME);
            }
            return found;
        }
    }

    private enum Statement {
        VERSION("version", 0, 0, 0),
        TALKS("talks", 0, 0, 0),
        PLACE("place", 0, 0, 0),
        MEMBER("member", 0, 0, 0),
        LINK("link", 0, 0, 0),
        WAVE("wave", 0, 0, 0),
        FORMAT("format", 1, 1, 9),
        SKEW("skew", 2, 0, 7),
        DOWN("down", 4, 1, 12),
        TAKES("takes", 8, 1, 99),
        SOAK("soak", 16, 0, 99),
        LIMIT("limit", 32, 0, 999);

        private static final Statement[] ALL = values();

        final String letters;
        /** One bit for each statement that may stand once. */
        final int mark;
        final int least;
        final int most;

        Statement(String letters, int mark, int least, int most) {
            this.letters = letters;
            this.mark = mark;
            this.least = least;
            this.most = most;
        }

        /** The statement that begins with the present token; null if there is none. */
        static Statement at(Text text) {
            for (Statement each : ALL) {
                if (text.isWord(each.letters)) {
                    return each;
                }
            }
            return null;
        }
    }

    /** Reads a cluster into a draft, so that a text with an error changes nothing. */
    private static final class ClusterReader {
        final Text text;
        final State draft;
        final Layout layout;
        /** The marks of the statements that stood already. */
        private int told = 0;

        ClusterReader(Text text, State draft) {
            this.text = text;
            this.draft = draft;
            this.layout = draft.layout;
        }

        boolean readAll() {
            layout.reset();
            draft.reset();
            told = 0;
            text.begin();
            for (int i = 0; i < MOST_BYTES && text.kind != Text.END; i++) {
                if (!readStatement()) {
                    return false;
                }
            }
            return true;
        }

        private boolean readStatement() {
            Statement statement = Statement.at(text);
            if (statement == null) {
                return text.fail(BAD_TOKEN);
            }
            int code = errorOfFirstWord(statement);
            if (code != 0) {
                return text.fail(code);
            }
            text.advance();
            return readRest(statement) && text.takeSign(Text.SEMICOLON);
        }

        private int errorOfFirstWord(Statement statement) {
            switch (statement) {
                case VERSION: return layout.versions.isFull() ? BAD_COUNT : 0;
                case PLACE: return layout.places.isFull() ? BAD_COUNT : 0;
                case MEMBER: return layout.members.isFull() ? BAD_COUNT : 0;
                case WAVE: return layout.waves >= MOST_WAVES ? BAD_COUNT : 0;
                case LINK: return layout.links >= MOST_LINKS ? BAD_COUNT : 0;
                case FORMAT:
                case SKEW:
                    return (told & statement.mark) != 0 || layout.members.count > 0 ? BAD_REPETITION : 0;
                default: return (told & statement.mark) != 0 ? BAD_REPETITION : 0;
            }
        }

        private boolean readRest(Statement statement) {
            switch (statement) {
                case VERSION: return readVersion();
                case TALKS: return readTalks();
                case PLACE: return readPlace();
                case MEMBER: return readMember();
                case LINK: return readLink();
                case WAVE: return readWave();
                default: return readSetting(statement);
            }
        }

        private boolean readVersion() {
            long name = text.takeNewName(layout.versions);
            if (name == 0) {
                return false;
            }
            int lowest = text.takeNumber(1, MOST_FORMAT);
            if (lowest == NONE) {
                return false;
            }
            int highest = text.takeNumber(lowest, MOST_FORMAT);
            if (highest == NONE) {
                return false;
            }
            layout.addVersion(name, lowest, highest);
            return true;
        }

        private boolean readTalks() {
            int version = text.findName(layout.versions);
            if (version == NONE) {
                return false;
            }
            text.advance();
            int other = text.findName(layout.versions);
            if (other == NONE) {
                return false;
            }
            if (other == version) {
                return text.fail(BAD_NAME);
            }
            if (isIn(layout.talkersOf(version), other)) {
                return text.fail(BAD_REPETITION);
            }
            text.advance();
            layout.addTalk(version, other);
            return true;
        }

        private boolean readPlace() {
            long name = text.takeNewName(layout.places);
            if (name == 0) {
                return false;
            }
            layout.addPlace(name);
            return true;
        }

        private boolean readMember() {
            long name = text.takeNewName(layout.members);
            if (name == 0) {
                return false;
            }
            int place = text.findName(layout.places);
            if (place == NONE) {
                return false;
            }
            text.advance();
            int version = text.findName(layout.versions);
            if (version == NONE) {
                return false;
            }
            if (!draft.canJoin(place, version)) {
                return text.fail(BAD_VERSION);
            }
            text.advance();
            boolean isHeld = text.isWord("held");
            if (isHeld) {
                text.advance();
            }
            draft.addMember(name, place, version, isHeld);
            return true;
        }

        private boolean readLink() {
            int member = text.findName(layout.members);
            if (member == NONE) {
                return false;
            }
            text.advance();
            int other = text.findName(layout.members);
            if (other == NONE) {
                return false;
            }
            if (layout.placeOf[member] == layout.placeOf[other]) {
                return text.fail(BAD_NAME);
            }
            // In different places, only a link can have made them partners.
            if (isIn(layout.partnersOf[member], other)) {
                return text.fail(BAD_REPETITION);
            }
            if (!isIn(layout.talkersOf(draft.version[member]), draft.version[other])) {
                return text.fail(BAD_VERSION);
            }
            text.advance();
            layout.addLink(member, other);
            return true;
        }

        private boolean readWave() {
            int wave = layout.waves;
            layout.addWave();
            boolean isGood = readPlaceOfWave(wave);
            // A sixth place can only be one that is unknown or in a wave already.
            for (int i = 0; i < MOST_PLACES && isGood && text.kind == Text.WORD; i++) {
                isGood = readPlaceOfWave(wave);
            }
            return isGood;
        }

        private boolean readPlaceOfWave(int wave) {
            int place = text.findName(layout.places);
            if (place == NONE) {
                return false;
            }
            if (layout.waveOfPlace[place] != NONE) {
                return text.fail(BAD_REPETITION);
            }
            text.advance();
            layout.addToWave(place, wave);
            return true;
        }

        private boolean readSetting(Statement statement) {
            int value = text.takeNumber(statement.least, statement.most);
            if (value == NONE) {
                return false;
            }
            told |= statement.mark;
            switch (statement) {
                case FORMAT: draft.format = value; break;
                case SKEW: layout.skew = value; break;
                case DOWN: layout.mostDown = value; break;
                case TAKES: layout.takes = value; break;
                case SOAK: layout.soak = value; break;
                default: layout.limit = value; break;
            }
            return true;
        }
    }

    private enum Command {
        PASS("pass", false, false, 0, 999),
        START("start", false, true, 0, NONE),
        STOP("stop", false, false, 0, NONE),
        GO("go", false, false, 0, NONE),
        HOLD("hold", true, false, 0, NONE),
        FREE("free", true, false, 0, NONE),
        REPORT("report", true, false, 0, 999),
        CHANGE("change", true, true, 0, NONE),
        COMMIT("commit", false, false, 0, 999),
        REPEAT("repeat", false, false, 1, 20);

        private static final Command[] ALL = values();

        final String letters;
        final boolean hasMember;
        final boolean hasVersion;
        /** The range of its number; it has none if most is NONE. */
        final int least;
        final int most;

        Command(String letters, boolean hasMember, boolean hasVersion, int least, int most) {
            this.letters = letters;
            this.hasMember = hasMember;
            this.hasVersion = hasVersion;
            this.least = least;
            this.most = most;
        }

        /** The command that begins with the present token; null if there is none. */
        static Command at(Text text) {
            for (Command each : ALL) {
                if (text.isWord(each.letters)) {
                    return each;
                }
            }
            return null;
        }
    }

    /** The commands of a script; a "repeat" stands ahead of those that it repeats. */
    private static final class Program {
        /** Far above the turns of a script whose repeats are all empty. */
        private static final int MOST_TURNS = 1000000;

        final Command[] commands = new Command[MOST_COMMANDS];
        final int[] member = new int[MOST_COMMANDS];
        final int[] version = new int[MOST_COMMANDS];
        final int[] number = new int[MOST_COMMANDS];
        /** Of a "repeat": the command behind its last one. */
        final int[] behind = new int[MOST_COMMANDS];
        int count = 0;
        /** The repeats that are open, the innermost last, and how many turns each has left. */
        final int[] open = new int[MOST_NESTED];
        final int[] left = new int[MOST_NESTED];
        int depth = 0;
        private int at = 0;

        boolean readAll(Text text, Layout layout) {
            count = 0;
            depth = 0;
            at = 0;
            text.begin();
            for (int i = 0; i < MOST_BYTES && (text.kind != Text.END || depth > 0); i++) {
                boolean isEnd = text.kind == Text.CLOSING && depth > 0;
                if (!(isEnd ? readEndOfRepeat(text) : readCommand(text, layout))) {
                    return false;
                }
            }
            return true;
        }

        private boolean readEndOfRepeat(Text text) {
            depth--;
            behind[open[depth]] = count;
            text.advance();
            return text.takeSign(Text.SEMICOLON);
        }

        private boolean readCommand(Text text, Layout layout) {
            Command command = Command.at(text);
            if (command == null) {
                return text.fail(BAD_TOKEN);
            }
            if (command == Command.REPEAT && depth >= MOST_NESTED) {
                return text.fail(BAD_REPETITION);
            }
            if (count >= MOST_COMMANDS) {
                return text.fail(BAD_COUNT);
            }
            text.advance();
            commands[count] = command;
            if (!readArguments(command, text, layout)) {
                return false;
            }
            count++;
            if (command != Command.REPEAT) {
                return text.takeSign(Text.SEMICOLON);
            }
            open[depth] = count - 1;
            depth++;
            return text.takeSign(Text.OPENING);
        }

        private boolean readArguments(Command command, Text text, Layout layout) {
            if (command.hasMember) {
                member[count] = text.findName(layout.members);
                if (member[count] == NONE) {
                    return false;
                }
                text.advance();
            }
            if (command.hasVersion) {
                version[count] = text.findName(layout.versions);
                if (version[count] == NONE) {
                    return false;
                }
                text.advance();
            }
            if (command.most != NONE) {
                number[count] = text.takeNumber(command.least, command.most);
                return number[count] != NONE;
            }
            return true;
        }

        /** The next command to do, no "repeat"; NONE behind the last one. */
        int next() {
            for (int turn = 0; turn < MOST_TURNS; turn++) {
                if (depth > 0 && at == behind[open[depth - 1]]) {
                    endTurn();
                } else if (at >= count) {
                    return NONE;
                } else if (commands[at] == Command.REPEAT) {
                    beginRepeat();
                } else {
                    at++;
                    return at - 1;
                }
            }
            return NONE;
        }

        private void beginRepeat() {
            if (depth < MOST_NESTED) {
                open[depth] = at;
                left[depth] = number[at];
                depth++;
            }
            at++;
        }

        private void endTurn() {
            int innermost = depth - 1;
            left[innermost]--;
            if (left[innermost] > 0) {
                at = open[innermost] + 1;
            } else {
                depth--;
            }
        }
    }
}
