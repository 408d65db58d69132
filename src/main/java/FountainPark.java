/** The drinking fountains of a park, as ../shared/DOC.md tells it. */
public final class FountainPark {
    public static final int NONE = -1;

    private static final int PLACES = 8;
    private static final int LAST_DAY = 999;
    private static final int MOST_FLOW = 90;
    private static final int LEAST_FILTER = 10;
    private static final int MOST_FILTER = 900;
    private static final int QUARTERS = 4;

    private static final int MENDING = 0;
    private static final int CHANGE = 1;
    private static final int KINDS = 2;
    private static final int MENDING_HANDS = 6;
    private static final int CHANGE_HANDS = 2;

    private static final int MOST_FROSTS = 6;
    private static final int MOST_OUTINGS = 16;
    private static final int MOST_CHILDREN = 99;
    private static final int REACH = 2;

    private static final int SETTINGS = 5;
    private static final int HANDS = 0;
    private static final int ORDER = 1;
    private static final int PER_CHILD = 2;
    private static final int VISITORS = 3;
    private static final int HAND_COST = 4;
    private static final int ORDERS = 3;
    private static final int[] SETTING_AT_FIRST = {4, 0, 2, 5, 10};
    private static final int[] SETTING_LEAST = {0, 0, 1, 0, 0};
    private static final int[] SETTING_MOST = {20, 2, 9, 90, 50};

    private static final int MOST_DAYS = 60;
    private static final int DAYS_TRIED = LAST_DAY + MOST_DAYS;
    private static final int MOST_ORDER_DAYS = 30;
    private static final int MOST_SAVED = 6;
    private static final int MOST_CODES = 60;
    private static final int LEAST_CODE = 33;
    private static final int MOST_CODE = 126;

    private static final int COUNTS = 12;
    private static final int FOUNTAIN_PROPERTIES = 10;
    private static final int JOB_PROPERTIES = 4;
    private static final int OUTING_PROPERTIES = 3;
    private static final int OUTLOOKS = 4;

    private final Park now;
    private final Park trial;
    private final Park[] saved;
    private int savedCount;
    private final OutingText text;
    private final int[] filterDays;

    public FountainPark() {
        now = new Park();
        trial = new Park();
        saved = new Park[MOST_SAVED];
        for (int i = 0; i < MOST_SAVED; i++) {
            saved[i] = new Park();
        }
        text = new OutingText();
        filterDays = new int[PLACES];
    }

    // ---- fountains

    public int build(int place, int flow, int filter, boolean isHeated)
            throws IndexOutOfBoundsException, IllegalArgumentException, IllegalStateException {
        checkPlace(place);
        checkRange(flow, 1, MOST_FLOW);
        checkRange(filter, LEAST_FILTER, MOST_FILTER);
        Fountain fountain = now.fountains[place];
        if (fountain.isBuilt) {
            throw new IllegalStateException("there is a fountain already");
        }
        saveState();
        fountain.begin(flow, filter, isHeated);
        return now.countBuilt();
    }

    public int remove(int place) throws IndexOutOfBoundsException, IllegalStateException {
        checkPlace(place);
        checkBuilt(place);
        saveState();
        return now.fountains[place].end();
    }

    public int drain(int place, boolean isDrained) throws IndexOutOfBoundsException, IllegalStateException {
        checkPlace(place);
        checkBuilt(place);
        saveState();
        Fountain fountain = now.fountains[place];
        int before = asNumber(fountain.isDrained);
        fountain.isDrained = isDrained;
        return before;
    }

    public int heat(int place, boolean isHeated) throws IndexOutOfBoundsException, IllegalStateException {
        checkPlace(place);
        checkBuilt(place);
        saveState();
        Fountain fountain = now.fountains[place];
        int before = asNumber(fountain.isHeated);
        fountain.isHeated = isHeated;
        return before;
    }

    // ---- frosts, outings

    public int frost(int first, int last) throws IllegalArgumentException, IllegalStateException {
        checkRange(first, now.day, LAST_DAY);
        checkRange(last, first, LAST_DAY);
        if (now.frosts.size >= MOST_FROSTS || now.frosts.meets(first, last)) {
            throw new IllegalStateException("no room for this frost");
        }
        saveState();
        now.frosts.insert(first, last);
        return now.frosts.size;
    }

    public int thaw(int first) throws IllegalArgumentException {
        int index = now.frosts.indexOfFirst(first);
        if (index < 0) {
            throw new IllegalArgumentException("no frost begins on this day");
        }
        saveState();
        int days = now.frosts.lasts[index] - now.frosts.firsts[index] + 1;
        now.frosts.dropAt(index);
        return days;
    }

    public int plan(int day, int children, int gate) throws IllegalArgumentException, IllegalStateException {
        checkRange(day, now.day, LAST_DAY);
        checkGroup(children, gate);
        if (now.outings.size >= MOST_OUTINGS) {
            throw new IllegalStateException("there are 16 outings");
        }
        saveState();
        now.outings.insert(day, children, gate);
        return now.outings.size;
    }

    public int callOff(int day) throws IllegalArgumentException {
        checkRange(day, 0, LAST_DAY);
        saveState();
        return now.outings.dropDay(day);
    }

    public int set(int setting, int value) throws IndexOutOfBoundsException, IllegalArgumentException {
        checkSetting(setting);
        checkRange(value, SETTING_LEAST[setting], SETTING_MOST[setting]);
        saveState();
        int before = now.settings[setting];
        now.settings[setting] = value;
        return before;
    }

    public int pass(int days) throws IllegalArgumentException, IllegalStateException {
        checkRange(days, 1, MOST_DAYS);
        if (now.day + days > LAST_DAY) {
            throw new IllegalStateException("the day would be above 999");
        }
        saveState();
        int before = now.thirsty;
        for (int i = 0; i < days; i++) {
            now.passDay();
        }
        return now.thirsty - before;
    }

    // ---- texts

    public int append(int code) throws IllegalArgumentException, IllegalStateException {
        checkRange(code, LEAST_CODE, MOST_CODE);
        if (text.length >= MOST_CODES) {
            throw new IllegalStateException("the buffer is full");
        }
        text.codes[text.length] = code;
        text.length++;
        return text.length;
    }

    public int clearBuffer() {
        int before = text.length;
        text.length = 0;
        return before;
    }

    public int firstError() {
        return text.findError();
    }

    public int planAll() throws IllegalArgumentException, IllegalStateException {
        if (!text.isComplete()) {
            throw new IllegalArgumentException("the buffer is not complete outings");
        }
        text.readGroups();
        if (now.outings.size + text.groups > MOST_OUTINGS || text.earliestDay() < now.day) {
            throw new IllegalStateException("a day is over, or there are too many outings");
        }
        saveState();
        for (int i = 0; i < text.groups; i++) {
            now.outings.insert(text.days[i], text.children[i], text.gates[i]);
        }
        text.length = 0;
        return now.outings.size;
    }

    public int undo() throws IllegalStateException {
        if (savedCount <= 0) {
            throw new IllegalStateException("no state is saved");
        }
        savedCount--;
        now.copyFrom(saved[savedCount]);
        return savedCount;
    }

    // ---- looks; nothing is changed

    public int fountain(int place, int what) throws IndexOutOfBoundsException, IllegalArgumentException {
        checkPlace(place);
        checkRange(what, 0, FOUNTAIN_PROPERTIES - 1);
        Fountain fountain = now.fountains[place];
        if (what == 6) {
            return fountain.closedBy(now.isFrosty());
        }
        return fountain.isBuilt ? fountain.property(what) : NONE;
    }

    public int job(int job, int what) throws IllegalArgumentException {
        checkNotNegative(job);
        checkRange(what, 0, JOB_PROPERTIES - 1);
        now.queueJobs();
        return job < now.queued ? now.queue[job].property(what) : NONE;
    }

    public int frostOf(int frost, int what) throws IllegalArgumentException {
        checkNotNegative(frost);
        checkRange(what, 0, 1);
        if (frost >= now.frosts.size) {
            return NONE;
        }
        return what == 0 ? now.frosts.firsts[frost] : now.frosts.lasts[frost];
    }

    public int outing(int outing, int what) throws IllegalArgumentException {
        checkNotNegative(outing);
        checkRange(what, 0, OUTING_PROPERTIES - 1);
        if (outing >= now.outings.size) {
            return NONE;
        }
        switch (what) {
            case 0: return now.outings.days[outing];
            case 1: return now.outings.children[outing];
            default: return now.outings.gates[outing];
        }
    }

    public int count(int what) throws IllegalArgumentException {
        checkRange(what, 0, COUNTS - 1);
        switch (what) {
            case 0: return now.day;
            case 1: return now.countBuilt();
            case 2: return now.countOpen();
            case 3: return now.countJobs();
            case 4: return now.outings.size;
            case 5: return now.thirsty;
            case 6: return now.guests;
            case 7: return now.cost;
            case 8: return now.hands;
            case 9: return now.water;
            case 10: return asNumber(now.isFrosty());
            default: return savedCount;
        }
    }

    public int setting(int setting) throws IndexOutOfBoundsException {
        checkSetting(setting);
        return now.settings[setting];
    }

    // ---- what would be; nothing is changed

    public int ifPassed(int days, int what) throws IllegalArgumentException {
        checkRange(days, 1, MOST_DAYS);
        checkRange(what, 0, OUTLOOKS - 1);
        tryDays(days, now.settings[ORDER]);
        switch (what) {
            case 0: return trial.thirsty - now.thirsty;
            case 1: return trial.cost - now.cost;
            case 2: return trial.countJobs();
            default: return trial.countOpen();
        }
    }

    public int ifOuting(int children, int gate) throws IllegalArgumentException {
        checkGroup(children, gate);
        return thirstyWith(children, gate) - thirstyWith(0, gate);
    }

    public int bestGate(int children) throws IllegalArgumentException {
        checkRange(children, 1, MOST_CHILDREN);
        int best = 0;
        int least = thirstyWith(children, 0);
        for (int gate = 1; gate < PLACES; gate++) {
            int thirsty = thirstyWith(children, gate);
            if (thirsty < least) {
                least = thirsty;
                best = gate;
            }
        }
        return best;
    }

    public int daysToFilter(int place) throws IndexOutOfBoundsException {
        checkPlace(place);
        foreseeFilters();
        return filterDays[place];
    }

    public int bestOrder(int days) throws IllegalArgumentException {
        checkRange(days, 1, MOST_ORDER_DAYS);
        int best = NONE;
        int least = 0;
        int most = 0;
        for (int order = 0; order < ORDERS; order++) {
            tryDays(days, order);
            int open = trial.countOpen();
            if (best == NONE || trial.thirsty < least || (trial.thirsty == least && open > most)) {
                best = order;
                least = trial.thirsty;
                most = open;
            }
        }
        return best;
    }

    public double fed() {
        if (now.guests <= 0) {
            return 1.0;
        }
        return (double) (now.guests - now.thirsty) / (double) now.guests;
    }

    public long digest() {
        long hash = 2851L;
        for (int what = 0; what < COUNTS; what++) {
            hash = mixed(hash, count(what));
        }
        for (int setting = 0; setting < SETTINGS; setting++) {
            hash = mixed(hash, now.settings[setting]);
        }
        hash = mixedPlaces(hash);
        hash = mixedLists(hash);
        for (int what = 0; what < OUTLOOKS; what++) {
            hash = mixed(hash, ifPassed(10, what));
        }
        for (int gate = 0; gate < PLACES; gate++) {
            hash = mixed(hash, ifOuting(20, gate));
        }
        hash = mixed(hash, bestGate(30));
        hash = mixed(hash, bestOrder(7));
        hash = mixed(hash, bitsOfShare(fed()));
        hash = mixed(hash, text.length);
        for (int i = 0; i < text.length; i++) {
            hash = mixed(hash, text.codes[i]);
        }
        return hash;
    }

    // ---- checks

    private static void checkPlace(int place) {
        if (place < 0 || place >= PLACES) {
            throw new IndexOutOfBoundsException("there is no such place");
        }
    }

    private static void checkSetting(int setting) {
        if (setting < 0 || setting >= SETTINGS) {
            throw new IndexOutOfBoundsException("there is no such setting");
        }
    }

    private static void checkRange(int value, int least, int most) {
        if (value < least || value > most) {
            throw new IllegalArgumentException("an argument is out of range");
        }
    }

    private static void checkNotNegative(int index) {
        if (index < 0) {
            throw new IllegalArgumentException("an index is below 0");
        }
    }

    private static void checkGroup(int children, int gate) {
        checkRange(children, 1, MOST_CHILDREN);
        checkRange(gate, 0, PLACES - 1);
    }

    private void checkBuilt(int place) {
        if (!now.fountains[place].isBuilt) {
            throw new IllegalStateException("there is no fountain");
        }
    }

    // ---- states

    /** The oldest state's object is used again for the newest, so that no call makes objects. */
    private void saveState() {
        if (savedCount >= MOST_SAVED) {
            Park oldest = saved[0];
            for (int i = 1; i < MOST_SAVED; i++) {
                saved[i - 1] = saved[i];
            }
            saved[MOST_SAVED - 1] = oldest;
            savedCount = MOST_SAVED - 1;
        }
        saved[savedCount].copyFrom(now);
        savedCount++;
    }

    private void tryDays(int days, int order) {
        trial.copyFrom(now);
        trial.settings[ORDER] = order;
        for (int i = 0; i < days; i++) {
            trial.passDay();
        }
    }

    /** The thirsty children behind the present day with one more outing; with 0 children there is none more. */
    private int thirstyWith(int children, int gate) {
        trial.copyFrom(now);
        if (children > 0) {
            trial.outings.insert(trial.day, children, gate);
        }
        trial.passDay();
        return trial.thirsty;
    }

    /** One run of days serves all places, as the digest asks for all of them. */
    private void foreseeFilters() {
        trial.copyFrom(now);
        for (int place = 0; place < PLACES; place++) {
            filterDays[place] = trial.fountains[place].change.isOpen ? 0 : NONE;
        }
        for (int days = 1; days <= MOST_DAYS; days++) {
            trial.passDay();
            for (int place = 0; place < PLACES; place++) {
                if (filterDays[place] == NONE && trial.fountains[place].change.isOpen) {
                    filterDays[place] = days;
                }
            }
        }
    }

    // ---- the digest's parts

    private static int asNumber(boolean is) {
        return is ? 1 : 0;
    }

    private static long mixed(long hash, long value) {
        return 31L * hash + value;
    }

    private long mixedPlaces(long hash) {
        long mix = hash;
        foreseeFilters();
        for (int place = 0; place < PLACES; place++) {
            for (int what = 0; what < FOUNTAIN_PROPERTIES; what++) {
                mix = mixed(mix, fountain(place, what));
            }
            mix = mixed(mix, filterDays[place]);
        }
        return mix;
    }

    private long mixedLists(long hash) {
        long mix = hash;
        now.queueJobs();
        for (int i = 0; i < now.queued; i++) {
            for (int what = 0; what < JOB_PROPERTIES; what++) {
                mix = mixed(mix, now.queue[i].property(what));
            }
        }
        for (int i = 0; i < now.frosts.size; i++) {
            mix = mixed(mixed(mix, now.frosts.firsts[i]), now.frosts.lasts[i]);
        }
        for (int i = 0; i < now.outings.size; i++) {
            mix = mixed(mix, now.outings.days[i]);
            mix = mixed(mix, now.outings.children[i]);
            mix = mixed(mix, now.outings.gates[i]);
        }
        return mix;
    }

    /** Double.doubleToLongBits of a share from 0 to 1, which is no part of the language that this file keeps to. */
    private static long bitsOfShare(double share) {
        if (share <= 0.0) {
            return 0L;
        }
        double scaled = share;
        int doublings = 0;
        while (scaled < 1.0 && doublings < 1022) {
            scaled = scaled * 2.0;
            doublings++;
        }
        long fraction = (long) ((scaled - 1.0) * (double) (1L << 52));
        return ((1023L - doublings) << 52) + fraction;
    }

    /** A job that may be open or not: each fountain has one of each kind for good, so that none is ever made. */
    private static final class Job {
        final int place;
        final int kind;
        boolean isOpen;
        int reportedOn;
        int worked;
        // of the queue that is being made, so it is no part of a state
        int rank;

        Job(int place, int kind) {
            this.place = place;
            this.kind = kind;
        }

        void report(int day) {
            isOpen = true;
            reportedOn = day;
            worked = 0;
        }

        int handsNeeded() {
            return (kind == MENDING ? MENDING_HANDS : CHANGE_HANDS) - worked;
        }

        /** The whole order of jobs becomes one number: the least comes first. */
        void rankIn(int order) {
            // the orders 0 and 1 bear the number of the kind that they put first
            boolean isPutBehind = order < KINDS && kind != order;
            int days = isPutBehind ? DAYS_TRIED + reportedOn : reportedOn;
            rank = (days * PLACES + place) * KINDS + kind;
        }

        int property(int what) {
            switch (what) {
                case 0: return place;
                case 1: return kind;
                case 2: return reportedOn;
                default: return handsNeeded();
            }
        }

        void copyFrom(Job other) {
            isOpen = other.isOpen;
            reportedOn = other.reportedOn;
            worked = other.worked;
        }
    }

    /**
     * A place with its fountain, if there is one. The jobs are its only marks: it is broken as long as its mending is
     * open, and its filter is used up as long as its change is open.
     */
    private static final class Fountain {
        final Job mending;
        final Job change;
        boolean isBuilt;
        boolean isHeated;
        boolean isDrained;
        int flow;
        int filter;
        int through;
        int given;
        int changes;
        int bursts;
        // of the day that passes, so it is no part of a state
        int leftToday;

        Fountain(int place) {
            mending = new Job(place, MENDING);
            change = new Job(place, CHANGE);
        }

        void begin(int newFlow, int newFilter, boolean heated) {
            isBuilt = true;
            isHeated = heated;
            isDrained = false;
            flow = newFlow;
            filter = newFilter;
            through = 0;
            given = 0;
            changes = 0;
            bursts = 0;
        }

        /** Answers how many jobs end with it. */
        int end() {
            int jobs = countJobsHere();
            isBuilt = false;
            mending.isOpen = false;
            change.isOpen = false;
            return jobs;
        }

        int countJobsHere() {
            return asNumber(mending.isOpen) + asNumber(change.isOpen);
        }

        int closedBy(boolean isFrosty) {
            if (!isBuilt) {
                return 1;
            }
            if (mending.isOpen) {
                return 2;
            }
            if (isDrained) {
                return 3;
            }
            if (isFrosty && !isHeated) {
                return 4;
            }
            return change.isOpen ? 5 : 0;
        }

        int property(int what) {
            switch (what) {
                case 0: return flow;
                case 1: return filter;
                case 2: return through;
                case 3: return asNumber(isHeated);
                case 4: return asNumber(isDrained);
                case 5: return asNumber(mending.isOpen);
                case 7: return given;
                case 8: return changes;
                default: return bursts;
            }
        }

        void copyFrom(Fountain other) {
            mending.copyFrom(other.mending);
            change.copyFrom(other.change);
            isBuilt = other.isBuilt;
            isHeated = other.isHeated;
            isDrained = other.isDrained;
            flow = other.flow;
            filter = other.filter;
            through = other.through;
            given = other.given;
            changes = other.changes;
            bursts = other.bursts;
        }
    }

    /** The frosts, by their first days. */
    private static final class Frosts {
        final int[] firsts = new int[MOST_FROSTS];
        final int[] lasts = new int[MOST_FROSTS];
        int size;

        boolean meets(int first, int last) {
            for (int i = 0; i < size; i++) {
                if (first <= lasts[i] && firsts[i] <= last) {
                    return true;
                }
            }
            return false;
        }

        int indexOfFirst(int first) {
            for (int i = 0; i < size; i++) {
                if (firsts[i] == first) {
                    return i;
                }
            }
            return NONE;
        }

        void insert(int first, int last) {
            if (size >= MOST_FROSTS) {
                return;
            }
            int at = size;
            for (; at > 0 && firsts[at - 1] > first; at--) {
                firsts[at] = firsts[at - 1];
                lasts[at] = lasts[at - 1];
            }
            firsts[at] = first;
            lasts[at] = last;
            size++;
        }

        void dropAt(int index) {
            for (int i = index + 1; i < size; i++) {
                firsts[i - 1] = firsts[i];
                lasts[i - 1] = lasts[i];
            }
            size--;
        }

        void copyFrom(Frosts other) {
            size = other.size;
            for (int i = 0; i < size; i++) {
                firsts[i] = other.firsts[i];
                lasts[i] = other.lasts[i];
            }
        }
    }

    /** The outings in their order: by days, of one day as they are gone through. */
    private static final class Outings {
        // one more than may be planned: ifOuting tries one on top of them
        static final int ROOM = MOST_OUTINGS + 1;
        final int[] days = new int[ROOM];
        final int[] children = new int[ROOM];
        final int[] gates = new int[ROOM];
        int size;

        void insert(int day, int group, int gate) {
            if (size >= ROOM) {
                return;
            }
            int at = size;
            for (; at > 0 && isBehind(at - 1, day, group); at--) {
                move(at - 1, at);
            }
            days[at] = day;
            children[at] = group;
            gates[at] = gate;
            size++;
        }

        boolean isBehind(int index, int day, int group) {
            return days[index] > day || (days[index] == day && children[index] < group);
        }

        /** Answers how many children had an outing on the day. */
        int dropDay(int day) {
            int kept = 0;
            int dropped = 0;
            for (int i = 0; i < size; i++) {
                if (days[i] == day) {
                    dropped += children[i];
                } else {
                    move(i, kept);
                    kept++;
                }
            }
            size = kept;
            return dropped;
        }

        void move(int from, int to) {
            days[to] = days[from];
            children[to] = children[from];
            gates[to] = gates[from];
        }

        void copyFrom(Outings other) {
            size = other.size;
            for (int i = 0; i < size; i++) {
                days[i] = other.days[i];
                children[i] = other.children[i];
                gates[i] = other.gates[i];
            }
        }
    }

    /** All that undo restores; what would be is tried on a copy. */
    private static final class Park {
        int day;
        final Fountain[] fountains = new Fountain[PLACES];
        final Frosts frosts = new Frosts();
        final Outings outings = new Outings();
        final int[] settings = new int[SETTINGS];
        final Job[] queue = new Job[PLACES * KINDS];
        int queued;
        int thirsty;
        int guests;
        int cost;
        int hands;
        int water;

        Park() {
            for (int place = 0; place < PLACES; place++) {
                fountains[place] = new Fountain(place);
                // the queue never holds null, also where nobody looks
                queue[KINDS * place + MENDING] = fountains[place].mending;
                queue[KINDS * place + CHANGE] = fountains[place].change;
            }
            for (int i = 0; i < SETTINGS; i++) {
                settings[i] = SETTING_AT_FIRST[i];
            }
        }

        void copyFrom(Park other) {
            day = other.day;
            for (int place = 0; place < PLACES; place++) {
                fountains[place].copyFrom(other.fountains[place]);
            }
            frosts.copyFrom(other.frosts);
            outings.copyFrom(other.outings);
            for (int i = 0; i < SETTINGS; i++) {
                settings[i] = other.settings[i];
            }
            thirsty = other.thirsty;
            guests = other.guests;
            cost = other.cost;
            hands = other.hands;
            water = other.water;
        }

        boolean isFrosty() {
            return frosts.meets(day, day);
        }

        int countBuilt() {
            int built = 0;
            for (int place = 0; place < PLACES; place++) {
                built += asNumber(fountains[place].isBuilt);
            }
            return built;
        }

        int countOpen() {
            boolean isFrosty = isFrosty();
            int open = 0;
            for (int place = 0; place < PLACES; place++) {
                open += asNumber(fountains[place].closedBy(isFrosty) == 0);
            }
            return open;
        }

        int countJobs() {
            int jobs = 0;
            for (int place = 0; place < PLACES; place++) {
                jobs += fountains[place].countJobsHere();
            }
            return jobs;
        }

        void queueJobs() {
            queued = 0;
            for (int place = 0; place < PLACES; place++) {
                for (int kind = 0; kind < KINDS; kind++) {
                    Job job = kind == MENDING ? fountains[place].mending : fountains[place].change;
                    if (job.isOpen && queued < queue.length) {
                        job.rankIn(settings[ORDER]);
                        queueByRank(job);
                    }
                }
            }
        }

        void queueByRank(Job job) {
            int at = queued;
            for (; at > 0 && queue[at - 1].rank > job.rank; at--) {
                queue[at] = queue[at - 1];
            }
            queue[at] = job;
            queued++;
        }

        void passDay() {
            boolean isFrosty = isFrosty();
            beginDay(isFrosty);
            workJobs(isFrosty);
            for (int i = 0; i < outings.size; i++) {
                if (outings.days[i] == day) {
                    serveOuting(outings.children[i], outings.gates[i], isFrosty);
                }
            }
            outings.dropDay(day);
            for (int place = 0; place < PLACES; place++) {
                give(place, QUARTERS * settings[VISITORS], isFrosty);
            }
            day++;
        }

        void beginDay(boolean isFrosty) {
            for (int place = 0; place < PLACES; place++) {
                Fountain fountain = fountains[place];
                fountain.leftToday = QUARTERS * fountain.flow;
                // 4: neither broken nor drained nor heated, while it freezes; a filter does not matter
                if (fountain.closedBy(isFrosty) == 4) {
                    fountain.mending.report(day);
                    fountain.bursts++;
                }
            }
        }

        void workJobs(boolean isFrosty) {
            queueJobs();
            int left = settings[HANDS];
            for (int i = 0; i < queued; i++) {
                Job job = queue[i];
                if (!isFrosty || job.kind != MENDING) {
                    int worked = Math.min(left, job.handsNeeded());
                    left -= worked;
                    job.worked += worked;
                    hands += worked;
                    cost += worked * settings[HAND_COST];
                    finishIfDone(job);
                }
            }
        }

        void finishIfDone(Job job) {
            if (job.handsNeeded() > 0) {
                return;
            }
            job.isOpen = false;
            if (job.kind == CHANGE) {
                fountains[job.place].through = 0;
                fountains[job.place].changes++;
            }
        }

        void serveOuting(int children, int gate, boolean isFrosty) {
            int perChild = settings[PER_CHILD];
            int needed = children * perChild;
            for (int distance = 0; distance <= REACH; distance++) {
                needed -= give(gate - distance, needed, isFrosty);
                if (distance > 0) {
                    needed -= give(gate + distance, needed, isFrosty);
                }
            }
            guests += children;
            if (perChild > 0) {
                thirsty += (needed + perChild - 1) / perChild;
            }
        }

        /** Answers what the place gives of what is wanted; nothing, if it is closed or no place. */
        int give(int place, int wanted, boolean isFrosty) {
            if (place < 0 || place >= PLACES || fountains[place].closedBy(isFrosty) != 0) {
                return 0;
            }
            Fountain fountain = fountains[place];
            int clean = QUARTERS * fountain.filter - fountain.through;
            int given = Math.min(wanted, Math.min(fountain.leftToday, clean));
            fountain.leftToday -= given;
            fountain.through += given;
            fountain.given += given;
            water += given;
            if (given == clean) {
                fountain.change.report(day);
            }
            return given;
        }
    }

    /** The buffer, and the outings that were read from it. */
    private static final class OutingText {
        static final int WRONG = -1;
        static final int DAY_BEGINS = 0;
        static final int DAY_HAS_ONE = 1;
        static final int DAY_HAS_TWO = 2;
        static final int DAY_IS_FULL = 3;
        static final int CHILDREN_BEGIN = 4;
        static final int CHILDREN_HAVE_ONE = 5;
        static final int CHILDREN_ARE_FULL = 6;
        static final int GATE_BEGINS = 7;
        static final int GATE_IS_FULL = 8;

        final int[] codes = new int[MOST_CODES];
        int length;
        // a group takes four characters and more
        final int[] days = new int[MOST_CODES / 4];
        final int[] children = new int[MOST_CODES / 4];
        final int[] gates = new int[MOST_CODES / 4];
        int groups;

        int findError() {
            int state = DAY_BEGINS;
            for (int i = 0; i < length; i++) {
                state = stateBehind(state, codes[i]);
                if (state == WRONG) {
                    return i;
                }
            }
            return length;
        }

        boolean isComplete() {
            int state = DAY_BEGINS;
            for (int i = 0; i < length && state != WRONG; i++) {
                state = stateBehind(state, codes[i]);
            }
            return state == GATE_IS_FULL;
        }

        static int stateBehind(int state, int code) {
            boolean isDigit = code >= '0' && code <= '9';
            switch (state) {
                case DAY_BEGINS:
                    return code == '0' ? DAY_IS_FULL : isDigit ? DAY_HAS_ONE : WRONG;
                case DAY_HAS_ONE:
                    return isDigit ? DAY_HAS_TWO : code == ':' ? CHILDREN_BEGIN : WRONG;
                case DAY_HAS_TWO:
                    return isDigit ? DAY_IS_FULL : code == ':' ? CHILDREN_BEGIN : WRONG;
                case DAY_IS_FULL:
                    return code == ':' ? CHILDREN_BEGIN : WRONG;
                case CHILDREN_BEGIN:
                    return isDigit && code != '0' ? CHILDREN_HAVE_ONE : WRONG;
                case CHILDREN_HAVE_ONE:
                    return isDigit ? CHILDREN_ARE_FULL : code == '@' ? GATE_BEGINS : WRONG;
                case CHILDREN_ARE_FULL:
                    return code == '@' ? GATE_BEGINS : WRONG;
                case GATE_BEGINS:
                    return code >= '0' && code <= '7' ? GATE_IS_FULL : WRONG;
                case GATE_IS_FULL:
                    return code == '+' ? CHILDREN_BEGIN : code == ';' ? DAY_BEGINS : WRONG;
                default:
                    return WRONG;
            }
        }

        /** Reads a text that is complete: a group ends with its gate, which is one digit behind "@". */
        void readGroups() {
            int day = 0;
            int group = 0;
            int number = 0;
            int state = DAY_BEGINS;
            groups = 0;
            for (int i = 0; i < length; i++) {
                int code = codes[i];
                state = stateBehind(state, code);
                number = code >= '0' && code <= '9' ? 10 * number + code - '0' : 0;
                if (state >= DAY_HAS_ONE && state <= DAY_IS_FULL) {
                    day = number;
                } else if (state == CHILDREN_HAVE_ONE || state == CHILDREN_ARE_FULL) {
                    group = number;
                } else if (state == GATE_IS_FULL && groups < gates.length) {
                    days[groups] = day;
                    children[groups] = group;
                    gates[groups] = number;
                    groups++;
                }
            }
        }

        int earliestDay() {
            int earliest = LAST_DAY;
            for (int i = 0; i < groups; i++) {
                earliest = Math.min(earliest, days[i]);
            }
            return earliest;
        }
    }
}
