import java.util.ArrayList;
import java.util.Comparator;
import java.util.List;
import java.util.regex.Matcher;
import java.util.regex.Pattern;
import java.util.stream.IntStream;

/** The document once more, written apart from the program: slow, of lists and copies, to be compared with it. */
final class Model {
    record Frost(int first, int last) {
    }

    record Outing(int day, int children, int gate) {
    }

    static final class Fountain {
        int flow;
        int filter;
        int through;
        int given;
        int changes;
        int bursts;
        boolean isHeated;
        boolean isDrained;
        boolean isBroken;
        int givenToday;

        Fountain copy() {
            Fountain f = new Fountain();
            f.flow = flow;
            f.filter = filter;
            f.through = through;
            f.given = given;
            f.changes = changes;
            f.bursts = bursts;
            f.isHeated = isHeated;
            f.isDrained = isDrained;
            f.isBroken = isBroken;
            return f;
        }
    }

    static final class Job {
        int place;
        int kind;
        int day;
        int worked;

        Job(int place, int kind, int day, int worked) {
            this.place = place;
            this.kind = kind;
            this.day = day;
            this.worked = worked;
        }

        int needs() {
            return (kind == 0 ? 6 : 2) - worked;
        }
    }

    static final class State {
        int day;
        Fountain[] fountains = new Fountain[8];
        List<Job> jobs = new ArrayList<>();
        List<Frost> frosts = new ArrayList<>();
        List<Outing> outings = new ArrayList<>();
        int[] settings = {4, 0, 2, 5, 10};
        int thirsty;
        int guests;
        int cost;
        int hands;
        int water;

        State copy() {
            State s = new State();
            s.day = day;
            for (int i = 0; i < 8; i++) {
                s.fountains[i] = fountains[i] == null ? null : fountains[i].copy();
            }
            for (Job job : jobs) {
                s.jobs.add(new Job(job.place, job.kind, job.day, job.worked));
            }
            s.frosts = new ArrayList<>(frosts);
            s.outings = new ArrayList<>(outings);
            s.settings = settings.clone();
            s.thirsty = thirsty;
            s.guests = guests;
            s.cost = cost;
            s.hands = hands;
            s.water = water;
            return s;
        }

        boolean frosty() {
            return frosts.stream().anyMatch(f -> f.first() <= day && day <= f.last());
        }

        int why(int place) {
            Fountain f = fountains[place];
            if (f == null) {
                return 1;
            }
            if (f.isBroken) {
                return 2;
            }
            if (f.isDrained) {
                return 3;
            }
            if (frosty() && !f.isHeated) {
                return 4;
            }
            return f.through == 4 * f.filter ? 5 : 0;
        }

        int open() {
            return (int) IntStream.range(0, 8).filter(p -> why(p) == 0).count();
        }

        List<Job> orderedJobs() {
            List<Job> ordered = new ArrayList<>(jobs);
            int order = settings[1];
            ordered.sort(Comparator.comparingInt((Job j) -> order == 2 ? 0 : Math.abs(j.kind - order))
                    .thenComparingInt(j -> j.day).thenComparingInt(j -> j.place).thenComparingInt(j -> j.kind));
            return ordered;
        }

        /** In the list they stand as they were planned. */
        List<Outing> orderedOutings() {
            List<Outing> ordered = new ArrayList<>(outings);
            ordered.sort(Comparator.comparingInt(Outing::day).thenComparingInt(o -> -o.children()));
            return ordered;
        }

        void passDay() {
            boolean frosty = frosty();
            for (int place = 0; place < 8; place++) {
                Fountain f = fountains[place];
                if (f == null) {
                    continue;
                }
                f.givenToday = 0;
                if (frosty && !f.isHeated && !f.isDrained && !f.isBroken) {
                    f.isBroken = true;
                    f.bursts++;
                    jobs.add(new Job(place, 0, day, 0));
                }
            }
            int left = settings[0];
            for (Job job : orderedJobs()) {
                if (frosty && job.kind == 0) {
                    continue;
                }
                while (left > 0 && job.needs() > 0) {
                    left--;
                    job.worked++;
                    hands++;
                    cost += settings[4];
                }
                if (job.needs() == 0) {
                    jobs.remove(job);
                    if (job.kind == 0) {
                        fountains[job.place].isBroken = false;
                    } else {
                        fountains[job.place].through = 0;
                        fountains[job.place].changes++;
                    }
                }
            }
            for (Outing outing : orderedOutings()) {
                if (outing.day() == day) {
                    int needed = outing.children() * settings[2];
                    List<Integer> walk = new ArrayList<>();
                    IntStream.range(0, 8).filter(p -> Math.abs(p - outing.gate()) <= 2).forEach(walk::add);
                    walk.sort(Comparator.comparingInt((Integer p) -> Math.abs(p - outing.gate()))
                            .thenComparingInt(p -> p));
                    for (int place : walk) {
                        needed -= give(place, needed);
                    }
                    guests += outing.children();
                    thirsty += (int) Math.ceil(needed / (double) settings[2]);
                    outings.remove(outing);
                }
            }
            for (int place = 0; place < 8; place++) {
                give(place, settings[3] * 4);
            }
            day++;
        }

        /** Quarter by quarter. */
        int give(int place, int wanted) {
            int given = 0;
            while (given < wanted && why(place) == 0 && fountains[place].givenToday < 4 * fountains[place].flow) {
                Fountain f = fountains[place];
                f.givenToday++;
                f.through++;
                f.given++;
                water++;
                given++;
                if (f.through == 4 * f.filter) {
                    jobs.add(new Job(place, 1, day, 0));
                }
            }
            return given;
        }
    }

    private static final String GROUPS = "[1-9][0-9]?@[0-7](\\+[1-9][0-9]?@[0-7])*";
    private static final String PART = "(0|[1-9][0-9]{0,2}):" + GROUPS;
    private static final Pattern TEXT = Pattern.compile(PART + "(;" + PART + ")*");

    State state = new State();
    final List<State> saved = new ArrayList<>();
    String buffer = "";

    private void save() {
        if (saved.size() == 6) {
            saved.remove(0);
        }
        saved.add(state.copy());
    }

    private static void index(boolean isFine) {
        if (!isFine) {
            throw new IndexOutOfBoundsException();
        }
    }

    private static void argument(boolean isFine) {
        if (!isFine) {
            throw new IllegalArgumentException();
        }
    }

    private static void condition(boolean isFine) {
        if (!isFine) {
            throw new IllegalStateException();
        }
    }

    private static boolean in(int value, int least, int most) {
        return least <= value && value <= most;
    }

    int build(int place, int flow, int filter, boolean isHeated) {
        index(in(place, 0, 7));
        argument(in(flow, 1, 90) && in(filter, 10, 900));
        condition(state.fountains[place] == null);
        save();
        Fountain f = new Fountain();
        f.flow = flow;
        f.filter = filter;
        f.isHeated = isHeated;
        state.fountains[place] = f;
        return count(1);
    }

    int remove(int place) {
        index(in(place, 0, 7));
        condition(state.fountains[place] != null);
        save();
        int before = state.jobs.size();
        state.fountains[place] = null;
        state.jobs.removeIf(j -> j.place == place);
        return before - state.jobs.size();
    }

    int drain(int place, boolean isDrained) {
        index(in(place, 0, 7));
        condition(state.fountains[place] != null);
        save();
        boolean before = state.fountains[place].isDrained;
        state.fountains[place].isDrained = isDrained;
        return before ? 1 : 0;
    }

    int heat(int place, boolean isHeated) {
        index(in(place, 0, 7));
        condition(state.fountains[place] != null);
        save();
        boolean before = state.fountains[place].isHeated;
        state.fountains[place].isHeated = isHeated;
        return before ? 1 : 0;
    }

    int frost(int first, int last) {
        argument(in(first, state.day, 999) && in(last, first, 999));
        for (int day = first; day <= last; day++) {
            int d = day;
            condition(state.frosts.stream().noneMatch(f -> in(d, f.first(), f.last())));
        }
        condition(state.frosts.size() < 6);
        save();
        state.frosts.add(new Frost(first, last));
        state.frosts.sort(Comparator.comparingInt(Frost::first));
        return state.frosts.size();
    }

    int thaw(int first) {
        Frost found = state.frosts.stream().filter(f -> f.first() == first).findAny().orElse(null);
        argument(found != null);
        save();
        state.frosts.remove(found);
        return found.last() - found.first() + 1;
    }

    int plan(int day, int children, int gate) {
        argument(in(day, state.day, 999) && in(children, 1, 99) && in(gate, 0, 7));
        condition(state.outings.size() < 16);
        save();
        state.outings.add(new Outing(day, children, gate));
        return state.outings.size();
    }

    int callOff(int day) {
        argument(in(day, 0, 999));
        save();
        int children = state.outings.stream().filter(o -> o.day() == day).mapToInt(Outing::children).sum();
        state.outings.removeIf(o -> o.day() == day);
        return children;
    }

    int set(int setting, int value) {
        index(in(setting, 0, 4));
        argument(in(value, setting == 2 ? 1 : 0, new int[] {20, 2, 9, 90, 50}[setting]));
        save();
        int before = state.settings[setting];
        state.settings[setting] = value;
        return before;
    }

    int pass(int days) {
        argument(in(days, 1, 60));
        condition(state.day + days <= 999);
        save();
        int before = state.thirsty;
        for (int i = 0; i < days; i++) {
            state.passDay();
        }
        return state.thirsty - before;
    }

    int append(int code) {
        argument(in(code, 33, 126));
        condition(buffer.length() < 60);
        buffer += (char) code;
        return buffer.length();
    }

    int clearBuffer() {
        int before = buffer.length();
        buffer = "";
        return before;
    }

    int firstError() {
        for (int i = 1; i <= buffer.length(); i++) {
            Matcher matcher = TEXT.matcher(buffer.substring(0, i));
            if (!matcher.matches() && !matcher.hitEnd()) {
                return i - 1;
            }
        }
        return buffer.length();
    }

    int planAll() {
        argument(TEXT.matcher(buffer).matches());
        List<Outing> read = new ArrayList<>();
        for (String part : buffer.split(";")) {
            int day = Integer.parseInt(part.substring(0, part.indexOf(':')));
            for (String group : part.substring(part.indexOf(':') + 1).split("\\+")) {
                String[] sides = group.split("@");
                read.add(new Outing(day, Integer.parseInt(sides[0]), Integer.parseInt(sides[1])));
            }
        }
        condition(read.stream().allMatch(o -> o.day() >= state.day) && read.size() + state.outings.size() <= 16);
        save();
        state.outings.addAll(read);
        buffer = "";
        return state.outings.size();
    }

    int undo() {
        condition(!saved.isEmpty());
        state = saved.remove(saved.size() - 1);
        return saved.size();
    }

    int fountain(int place, int what) {
        index(in(place, 0, 7));
        argument(in(what, 0, 9));
        Fountain f = state.fountains[place];
        if (what == 6) {
            return state.why(place);
        }
        return f == null ? -1 : new int[] {f.flow, f.filter, f.through, f.isHeated ? 1 : 0, f.isDrained ? 1 : 0,
            f.isBroken ? 1 : 0, 0, f.given, f.changes, f.bursts}[what];
    }

    int job(int job, int what) {
        argument(job >= 0 && in(what, 0, 3));
        if (job >= state.jobs.size()) {
            return -1;
        }
        Job found = state.orderedJobs().get(job);
        return new int[] {found.place, found.kind, found.day, found.needs()}[what];
    }

    int frostOf(int frost, int what) {
        argument(frost >= 0 && in(what, 0, 1));
        if (frost >= state.frosts.size()) {
            return -1;
        }
        return what == 0 ? state.frosts.get(frost).first() : state.frosts.get(frost).last();
    }

    int outing(int outing, int what) {
        argument(outing >= 0 && in(what, 0, 2));
        if (outing >= state.outings.size()) {
            return -1;
        }
        Outing found = state.orderedOutings().get(outing);
        return new int[] {found.day(), found.children(), found.gate()}[what];
    }

    int count(int what) {
        argument(in(what, 0, 11));
        int built = (int) java.util.Arrays.stream(state.fountains).filter(f -> f != null).count();
        return new int[] {state.day, built, state.open(), state.jobs.size(), state.outings.size(), state.thirsty,
            state.guests, state.cost, state.hands, state.water, state.frosty() ? 1 : 0, saved.size()}[what];
    }

    int setting(int setting) {
        index(in(setting, 0, 4));
        return state.settings[setting];
    }

    int ifPassed(int days, int what) {
        argument(in(days, 1, 60) && in(what, 0, 3));
        State s = state.copy();
        for (int i = 0; i < days; i++) {
            s.passDay();
        }
        return new int[] {s.thirsty - state.thirsty, s.cost - state.cost, s.jobs.size(), s.open()}[what];
    }

    int ifOuting(int children, int gate) {
        argument(in(children, 1, 99) && in(gate, 0, 7));
        State with = state.copy();
        with.outings.add(new Outing(state.day, children, gate));
        with.passDay();
        State without = state.copy();
        without.passDay();
        return with.thirsty - without.thirsty;
    }

    int bestGate(int children) {
        argument(in(children, 1, 99));
        return IntStream.range(0, 8).boxed().min(Comparator.comparingInt(g -> ifOuting(children, g))).get();
    }

    int daysToFilter(int place) {
        index(in(place, 0, 7));
        if (state.fountains[place] == null) {
            return -1;
        }
        State s = state.copy();
        for (int days = 0; days <= 60; days++) {
            if (s.fountains[place].through == 4 * s.fountains[place].filter) {
                return days;
            }
            s.passDay();
        }
        return -1;
    }

    int bestOrder(int days) {
        argument(in(days, 1, 30));
        List<int[]> tried = new ArrayList<>();
        for (int order = 0; order < 3; order++) {
            State s = state.copy();
            s.settings[1] = order;
            for (int i = 0; i < days; i++) {
                s.passDay();
            }
            tried.add(new int[] {s.thirsty, -s.open(), order});
        }
        return tried.stream().min(java.util.Arrays::compare).get()[2];
    }

    double fed() {
        return state.guests == 0 ? 1.0 : (state.guests - state.thirsty) / (double) state.guests;
    }

    long digest() {
        List<Long> values = new ArrayList<>();
        IntStream.range(0, 12).forEach(w -> values.add((long) count(w)));
        IntStream.range(0, 5).forEach(s -> values.add((long) setting(s)));
        for (int p = 0; p < 8; p++) {
            int place = p;
            IntStream.range(0, 10).forEach(w -> values.add((long) fountain(place, w)));
            values.add((long) daysToFilter(place));
        }
        for (int i = 0; i < state.jobs.size(); i++) {
            int job = i;
            IntStream.range(0, 4).forEach(w -> values.add((long) job(job, w)));
        }
        for (int i = 0; i < state.frosts.size(); i++) {
            int frost = i;
            IntStream.range(0, 2).forEach(w -> values.add((long) frostOf(frost, w)));
        }
        for (int i = 0; i < state.outings.size(); i++) {
            int outing = i;
            IntStream.range(0, 3).forEach(w -> values.add((long) outing(outing, w)));
        }
        IntStream.range(0, 4).forEach(w -> values.add((long) ifPassed(10, w)));
        IntStream.range(0, 8).forEach(g -> values.add((long) ifOuting(20, g)));
        values.add((long) bestGate(30));
        values.add((long) bestOrder(7));
        values.add(Double.doubleToLongBits(fed()));
        values.add((long) buffer.length());
        buffer.chars().forEach(c -> values.add((long) c));
        return values.stream().reduce(2851L, (hash, value) -> 31 * hash + value);
    }
}
