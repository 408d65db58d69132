import java.util.function.LongSupplier;

/** Long runs of calls, the same at each start, on a park and on the model: each answer must be the same. */
public final class ModelTest {
    private static final int RUNS = 150;
    private static final int CALLS = 512;
    private static final String[] TEXTS = {":", ";", "+", "@", "0", "1", "7", "8", "9", "!", "~"};

    private final FountainPark park = new FountainPark();
    private final Model model = new Model();
    private final int run;
    private long seed;
    private int calls;
    private boolean isSame = true;

    private ModelTest(int run) {
        this.run = run;
        this.seed = 88172645463325252L + 7919L * run;
    }

    public static void main(String[] args) {
        for (int run = 0; run < RUNS; run++) {
            new ModelTest(run).go();
        }
        Check.end();
    }

    /** The same row of numbers at each start. */
    private int next(int bound) {
        seed = seed * 6364136223846793005L + 1442695040888963407L;
        return (int) ((seed >>> 33) % bound);
    }

    /** Mostly least to most, now and then just outside or far away. */
    private int near(int least, int most) {
        int kind = next(40);
        if (kind == 0) {
            return least - 1;
        }
        if (kind == 1) {
            return most + 1;
        }
        if (kind == 2) {
            return next(2) == 0 ? Integer.MIN_VALUE : Integer.MAX_VALUE;
        }
        return kind == 3 ? least : kind == 4 ? most : least + next(most - least + 1);
    }

    private void same(String call, LongSupplier ofPark, LongSupplier ofModel) {
        String want = Check.answer(ofModel);
        String got = Check.answer(ofPark);
        calls++;
        if (!want.equals(got)) {
            Check.fail("run " + run + ", call " + calls + ": " + call + " answered " + got + ", the model " + want);
            isSame = false;
        }
    }

    private void go() {
        int builds = next(9);
        for (int i = 0; i < builds; i++) {
            build();
        }
        while (isSame && calls < CALLS - 16) {
            change();
            if (next(3) == 0) {
                look();
            }
            if (next(6) == 0) {
                foresee();
            }
            if (next(12) == 0) {
                same("digest()", park::digest, model::digest);
            }
        }
        same("digest()", park::digest, model::digest);
        while (isSame && calls < CALLS - 1) {
            same("undo()", park::undo, model::undo);
        }
        same("digest()", park::digest, model::digest);
    }

    private void build() {
        int place = near(0, 7);
        int flow = next(2) == 0 ? near(1, 90) : near(1, 12);
        int filter = next(3) == 0 ? near(10, 900) : near(10, 40);
        boolean isHeated = next(2) == 0;
        same("build", () -> park.build(place, flow, filter, isHeated),
                () -> model.build(place, flow, filter, isHeated));
    }

    private void change() {
        int day = model.state.day;
        int place = near(0, 7);
        boolean is = next(2) == 0;
        switch (next(16)) {
            case 0 -> build();
            case 1 -> {
                if (next(3) == 0) {
                    same("remove", () -> park.remove(place), () -> model.remove(place));
                }
            }
            case 2 -> same("drain", () -> park.drain(place, is), () -> model.drain(place, is));
            case 3 -> same("heat", () -> park.heat(place, is), () -> model.heat(place, is));
            case 4 -> {
                int first = near(day, Math.min(999, day + 9));
                int last = near(first, Math.min(999, Math.max(0, first) % 1000 + 4));
                same("frost(" + first + ", " + last + ")", () -> park.frost(first, last),
                        () -> model.frost(first, last));
            }
            case 5 -> {
                int first = next(3) > 0 && !model.state.frosts.isEmpty() ? model.state.frosts.get(0).first()
                        : near(0, 999);
                same("thaw", () -> park.thaw(first), () -> model.thaw(first));
            }
            case 6, 7, 8 -> {
                int on = next(9) == 0 ? near(day, 999) : near(day, Math.min(999, day + 3));
                int children = near(1, 99);
                int gate = near(0, 7);
                same("plan", () -> park.plan(on, children, gate), () -> model.plan(on, children, gate));
            }
            case 9 -> {
                int on = near(day, Math.min(999, day + 3));
                same("callOff", () -> park.callOff(on), () -> model.callOff(on));
            }
            case 10 -> {
                int setting = near(0, 4);
                int most = setting < 0 || setting > 4 ? 5 : new int[] {9, 2, 9, 12, 50}[setting];
                int value = near(setting == 2 ? 1 : 0, next(5) == 0 ? 90 : most);
                same("set(" + setting + ", " + value + ")", () -> park.set(setting, value),
                        () -> model.set(setting, value));
            }
            case 11, 12 -> {
                int days = next(6) == 0 ? near(1, 60) : near(1, 3);
                same("pass(" + days + ")", () -> park.pass(days), () -> model.pass(days));
            }
            case 13 -> {
                if (next(3) > 0) {
                    write(text(day));
                    same("planAll()", park::planAll, model::planAll);
                } else {
                    int code = near(33, 126);
                    same("append", () -> park.append(code), () -> model.append(code));
                }
                same("firstError()", park::firstError, model::firstError);
                if (next(2) == 0) {
                    same("clearBuffer()", park::clearBuffer, model::clearBuffer);
                }
            }
            case 14 -> same("undo()", park::undo, model::undo);
            default -> look();
        }
    }

    /** Outings as a text, now and then with a slip. */
    private String text(int day) {
        StringBuilder text = new StringBuilder();
        int parts = 1 + next(2);
        for (int part = 0; part < parts; part++) {
            text.append(part == 0 ? "" : ";").append(Math.max(0, day - (next(8) == 0 ? 1 : 0)) + next(3)).append(':');
            int groups = 1 + next(2);
            for (int group = 0; group < groups; group++) {
                text.append(group == 0 ? "" : "+").append(next(99) + 1).append('@').append(next(8));
            }
        }
        if (next(3) == 0) {
            text.insert(next(text.length() + 1), TEXTS[next(TEXTS.length)]);
        } else if (next(6) == 0) {
            text.deleteCharAt(next(text.length()));
        }
        return text.toString();
    }

    private void write(String text) {
        for (int i = 0; i < text.length() && calls < CALLS - 20; i++) {
            int code = text.charAt(i);
            same("append(" + code + ")", () -> park.append(code), () -> model.append(code));
        }
    }

    private void look() {
        int place = near(0, 7);
        int index = near(0, 16);
        int what = near(0, 11);
        switch (next(6)) {
            case 0 -> same("fountain(" + place + ", " + what + ")", () -> park.fountain(place, what),
                    () -> model.fountain(place, what));
            case 1 -> same("job(" + index + ", " + what % 5 + ")", () -> park.job(index / 3, what % 5),
                    () -> model.job(index / 3, what % 5));
            case 2 -> same("frostOf", () -> park.frostOf(index / 2, what % 3), () -> model.frostOf(index / 2, what % 3));
            case 3 -> same("outing", () -> park.outing(index, what % 4), () -> model.outing(index, what % 4));
            case 4 -> same("count(" + what + ")", () -> park.count(what), () -> model.count(what));
            default -> same("setting(" + index / 3 + ")", () -> park.setting(index / 3),
                    () -> model.setting(index / 3));
        }
    }

    private void foresee() {
        int days = near(1, 60);
        int what = near(0, 3);
        int children = near(1, 99);
        int place = near(0, 7);
        switch (next(6)) {
            case 0 -> same("ifPassed(" + days + ", " + what + ")", () -> park.ifPassed(days, what),
                    () -> model.ifPassed(days, what));
            case 1 -> same("ifOuting(" + children + ", " + place + ")", () -> park.ifOuting(children, place),
                    () -> model.ifOuting(children, place));
            case 2 -> same("bestGate(" + children + ")", () -> park.bestGate(children),
                    () -> model.bestGate(children));
            case 3 -> same("daysToFilter(" + place + ")", () -> park.daysToFilter(place),
                    () -> model.daysToFilter(place));
            case 4 -> same("bestOrder(" + days / 2 + ")", () -> park.bestOrder(days / 2),
                    () -> model.bestOrder(days / 2));
            default -> same("fed()", () -> Double.doubleToLongBits(park.fed()),
                    () -> Double.doubleToLongBits(model.fed()));
        }
    }
}
