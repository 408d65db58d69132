/** Promises 6 to 11: frost, thaw, plan, callOff, set, pass; and what happens when a day passes. */
public final class DaysTest {
    public static void main(String[] args) {
        frost();
        frostThrows();
        thaw();
        plan();
        planThrows();
        callOff();
        set();
        setThrows();
        passThrows();
        passIsUndoneAsOne();
        bursts();
        mendingWaitsForThaw();
        crewByOrder();
        jobsByReport();
        biggerOutingsFirst();
        nearestFirst();
        oldJobsStayInOrder();
        thirstIsRoundedUp();
        flowOfTheDay();
        visitors();
        filterClosesAtOnce();
        dayRunsInOrder();
        Check.end();
    }

    private static void frost() {
        FountainPark park = new FountainPark();
        Check.due("a frost of one day", 1, park.frost(20, 20));
        Check.due("a frost from the present day", 2, park.frost(0, 3));
        Check.due("frosts that touch", 3, park.frost(4, 4));
        Check.due("a frost to the last day", 4, park.frost(998, 999));
        park.pass(5);
        Check.due("those that are over count", 5, park.frost(5, 19));
        Check.due("the sixth", 6, park.frost(21, 997));
        Check.dueState("the seventh, where a day is taken", () -> park.frost(30, 30));
        Check.due("undo of frost", 5, park.undo());
        Check.due("it is gone", -1, park.frostOf(5, 0));
    }

    private static void frostThrows() {
        FountainPark park = new FountainPark();
        park.frost(10, 12);
        park.pass(5);
        Check.dueArgument("first is over", () -> park.frost(4, 6));
        Check.dueArgument("first below 0", () -> park.frost(-1, 6));
        Check.dueArgument("first above 999", () -> park.frost(1000, 1000));
        Check.dueArgument("last above 999", () -> park.frost(998, 1000));
        Check.dueArgument("last before first", () -> park.frost(11, 10));
        Check.dueState("shares its first day", () -> park.frost(12, 15));
        Check.dueState("shares its last day", () -> park.frost(5, 10));
        Check.dueState("lies in another", () -> park.frost(11, 11));
        Check.dueState("holds another", () -> park.frost(9, 13));
        Check.due("nothing is saved", 2, park.count(11));
        park.frost(5, 9);
        park.frost(13, 13);
        park.frost(15, 15);
        park.frost(17, 17);
        park.frost(19, 19);
        Check.dueState("there are 6", () -> park.frost(50, 50));
        Check.dueArgument("there are 6, but out of range", () -> park.frost(50, 49));
    }

    private static void thaw() {
        FountainPark park = new FountainPark();
        park.frost(2, 2);
        park.frost(4, 10);
        park.frost(0, 1);
        Check.due("thaw of seven days", 7, park.thaw(4));
        Check.due("frosts behind", "2 2", Check.row(0, 1, what -> park.frostOf(1, what)));
        Check.due("none behind", -1, park.frostOf(2, 0));
        Check.due("undo of thaw", 3, park.undo());
        Check.due("it is back", "4 10", Check.row(0, 1, what -> park.frostOf(2, what)));
        park.pass(3);
        Check.due("thaw of a frost that is over", 2, park.thaw(0));
        Check.due("thaw of one day", 1, park.thaw(2));
        Check.dueArgument("no frost any more", () -> park.thaw(2));
        Check.dueArgument("inside a frost", () -> park.thaw(5));
        Check.dueArgument("its last day", () -> park.thaw(10));
        Check.dueArgument("no day", () -> park.thaw(-1));
        Check.dueArgument("no day", () -> park.thaw(1000));
        Check.due("thaw of the last one", 7, park.thaw(4));
        Check.due("the days are free", 1, park.frost(4, 10));
        for (int day = 20; day < 25; day++) {
            park.frost(day, day);
        }
        Check.due("thaw of one of 6", 1, park.thaw(22));
        Check.due("5 are left", "4 20 21 23 24 -1", Check.row(0, 5, frost -> park.frostOf(frost, 0)));
        Check.due("so there is room", 6, park.frost(22, 22));
    }

    private static void plan() {
        FountainPark park = new FountainPark();
        Check.due("plan", 1, park.plan(999, 1, 0));
        Check.due("plan", 2, park.plan(0, 99, 7));
        Check.due("two of a day", 3, park.plan(0, 99, 3));
        Check.due("outings", 3, park.count(4));
        Check.due("undo of plan", 2, park.undo());
        Check.due("outings behind undo", 2, park.count(4));
        for (int i = 3; i <= 16; i++) {
            Check.due("plan number " + i, i, park.plan(i, i, 1));
        }
        Check.dueState("the 17th", () -> park.plan(5, 5, 5));
        Check.dueArgument("the 17th, out of range", () -> park.plan(5, 0, 5));
        park.pass(1);
        Check.due("one is over", 15, park.count(4));
        Check.due("so there is room", 16, park.plan(1, 5, 5));
    }

    private static void planThrows() {
        FountainPark park = new FountainPark();
        park.pass(2);
        Check.dueArgument("a day that is over", () -> park.plan(1, 5, 5));
        Check.dueArgument("a day below 0", () -> park.plan(-1, 5, 5));
        Check.dueArgument("day 1000", () -> park.plan(1000, 5, 5));
        Check.dueArgument("no children", () -> park.plan(2, 0, 5));
        Check.dueArgument("100 children", () -> park.plan(2, 100, 5));
        Check.dueArgument("gate -1", () -> park.plan(2, 5, -1));
        Check.dueArgument("gate 8", () -> park.plan(2, 5, 8));
        Check.due("nothing is saved", 1, park.count(11));
        Check.due("nothing is planned", 0, park.count(4));
    }

    private static void callOff() {
        FountainPark park = new FountainPark();
        park.plan(3, 10, 0);
        park.plan(4, 20, 1);
        park.plan(3, 30, 2);
        park.plan(5, 40, 3);
        Check.due("call off two", 40, park.callOff(3));
        Check.due("two are left", 2, park.count(4));
        Check.due("the first of them", "4 20 1", Check.row(0, 2, what -> park.outing(0, what)));
        Check.due("the second of them", "5 40 3", Check.row(0, 2, what -> park.outing(1, what)));
        Check.due("call off none", 0, park.callOff(3));
        Check.due("it is saved too", 6, park.count(11));
        park.undo();
        Check.due("undo of callOff", 4, park.undo());
        Check.due("they are back", 4, park.count(4));
        park.pass(4);
        Check.due("a day that is over", 0, park.callOff(0));
        Check.due("the last day", 0, park.callOff(999));
        Check.dueArgument("callOff(-1)", () -> park.callOff(-1));
        Check.dueArgument("callOff(1000)", () -> park.callOff(1000));
    }

    private static void set() {
        FountainPark park = new FountainPark();
        int[] first = {4, 0, 2, 5, 10};
        int[] least = {0, 0, 1, 0, 0};
        int[] most = {20, 2, 9, 90, 50};
        for (int setting = 0; setting < 5; setting++) {
            Check.due("set to the most", first[setting], park.set(setting, most[setting]));
            Check.due("set to the least", most[setting], park.set(setting, least[setting]));
            Check.due("setting", least[setting], park.setting(setting));
            Check.due("undo of set", Math.min(5, 2 * setting + 1), park.undo());
            Check.due("setting behind undo", most[setting], park.setting(setting));
            park.set(setting, most[setting]);
        }
    }

    private static void setThrows() {
        FountainPark park = new FountainPark();
        Check.dueIndex("set(-1)", () -> park.set(-1, 1));
        Check.dueIndex("set(5)", () -> park.set(5, 1000));
        int[] least = {0, 0, 1, 0, 0};
        int[] most = {20, 2, 9, 90, 50};
        for (int i = 0; i < 5; i++) {
            int setting = i;
            Check.dueArgument("below its range", () -> park.set(setting, least[setting] - 1));
            Check.dueArgument("above its range", () -> park.set(setting, most[setting] + 1));
        }
        Check.due("nothing is saved", 0, park.count(11));
        Check.due("nothing is changed", "4 0 2 5 10", Check.row(0, 4, park::setting));
    }

    private static void passThrows() {
        FountainPark park = new FountainPark();
        Check.dueArgument("pass(0)", () -> park.pass(0));
        Check.dueArgument("pass(61)", () -> park.pass(61));
        Check.dueArgument("pass(-1)", () -> park.pass(-1));
        Check.dueArgument("pass of the most", () -> park.pass(Integer.MAX_VALUE));
        for (int i = 0; i < 16; i++) {
            Check.due("pass(60)", 0, park.pass(60));
        }
        Check.due("the day", 960, park.count(0));
        Check.dueState("to the day 1000", () -> park.pass(40));
        Check.dueArgument("61 days are out of range first", () -> park.pass(61));
        Check.due("to the day 999", 0, park.pass(39));
        Check.due("the day", 999, park.count(0));
        Check.dueState("behind the day 999", () -> park.pass(1));
    }

    private static void passIsUndoneAsOne() {
        FountainPark park = new FountainPark();
        park.build(1, 5, 10, true);
        park.plan(1, 30, 1);
        park.plan(3, 31, 1);
        Check.due("thirsty in four days", 20 + 31 - 10, park.pass(4));
        Check.due("saved as one", 4, park.count(11));
        Check.due("counts", "4 1 0 1 0 41 61 20 2 80 0 4", Check.row(0, 11, park::count));
        park.undo();
        Check.due("counts behind undo", "0 1 1 0 2 0 0 0 0 0 0 3", Check.row(0, 11, park::count));
        Check.due("the fountain behind undo", "5 10 0 1 0 0 0 0 0 0", Check.row(0, 9, what -> park.fountain(1, what)));
    }

    private static void bursts() {
        FountainPark park = new FountainPark();
        park.build(0, 9, 90, false);
        park.build(1, 9, 90, true);
        park.build(2, 9, 90, false);
        park.drain(2, true);
        park.build(3, 9, 90, false);
        park.frost(1, 2);
        park.set(0, 0);
        park.pass(1);
        Check.due("no burst before the frost", 0, park.count(3));
        Check.due("open before the frost begins", 1, park.count(2));
        Check.due("the frost closes", "4 0 3 4", "" + park.fountain(0, 6) + " " + park.fountain(1, 6) + " "
                + park.fountain(2, 6) + " " + park.fountain(3, 6));
        park.pass(2);
        Check.due("two burst", 2, park.count(3));
        Check.due("they burst once", 1, park.fountain(0, 9));
        Check.due("the first job", "0 0 1 6", Check.row(0, 3, what -> park.job(0, what)));
        Check.due("the second job", "3 0 1 6", Check.row(0, 3, what -> park.job(1, what)));
        Check.due("broken behind the frost", 2, park.fountain(0, 6));
        park.drain(0, true);
        Check.due("broken is told before drained", 2, park.fountain(0, 6));
        Check.due("heated", 0, park.fountain(1, 9));
        Check.due("drained", 0, park.fountain(2, 9));
        park.set(0, 20);
        park.pass(1);
        Check.due("mended", "0 0", park.fountain(3, 5) + " " + park.count(3));
        park.frost(4, 4);
        park.pass(1);
        Check.due("a second burst", 2, park.fountain(3, 9));
        Check.due("reported on its day", 4, park.job(0, 2));
    }

    private static void mendingWaitsForThaw() {
        FountainPark park = new FountainPark();
        park.build(4, 10, 10, false);
        park.plan(0, 20, 4);
        park.frost(1, 2);
        park.pass(1);
        Check.due("the filter is reported", "4 1 0 2", Check.row(0, 3, what -> park.job(0, what)));
        park.set(0, 5);
        park.pass(1);
        Check.due("the change goes on in the frost", "0 0 1 1", park.fountain(4, 2) + " " + park.fountain(4, 7) % 40
                + " " + park.fountain(4, 8) + " " + park.count(3));
        Check.due("the mending does not", "4 0 1 6", Check.row(0, 3, what -> park.job(0, what)));
        Check.due("two hands so far", "20 2", Check.row(7, 8, park::count));
        park.pass(1);
        Check.due("still frost", 6, park.job(0, 3));
        park.pass(1);
        Check.due("five of six hands", 1, park.job(0, 3));
        Check.due("they cost though it is not done", "70 7", Check.row(7, 8, park::count));
        Check.due("still broken", 1, park.fountain(4, 5));
        park.set(4, 3);
        park.pass(1);
        Check.due("mended by the last hand", "0 0", park.fountain(4, 5) + " " + park.count(3));
        Check.due("at the price of that day", "73 8", Check.row(7, 8, park::count));
        Check.due("open on the same day", 60, park.fountain(4, 7));
    }

    /** A filter that is used up on the day 0 at 5, bursts at 2 and 5 on the day 1. */
    private static FountainPark withThreeJobs() {
        FountainPark park = new FountainPark();
        park.set(0, 0);
        park.set(3, 0);
        park.build(5, 10, 10, false);
        park.build(2, 10, 10, false);
        park.plan(0, 20, 7);
        park.frost(1, 1);
        park.pass(2);
        return park;
    }

    private static String queue(FountainPark park) {
        StringBuilder queue = new StringBuilder();
        for (int job = 0; park.job(job, 0) != -1; job++) {
            queue.append(park.job(job, 0)).append('/').append(park.job(job, 1)).append(' ');
        }
        return queue.toString().trim();
    }

    private static void crewByOrder() {
        FountainPark park = withThreeJobs();
        Check.due("mending first", "2/0 5/0 5/1", queue(park));
        park.set(1, 1);
        Check.due("changes first", "5/1 2/0 5/0", queue(park));
        park.set(1, 2);
        Check.due("no kind first", "5/1 2/0 5/0", queue(park));
        park.set(1, 0);
        park.set(0, 9);
        park.pass(1);
        Check.due("9 hands: one and a half", "5/0 5/1", queue(park));
        Check.due("3 of 6 hands", 3, park.job(0, 3));
        Check.due("no hand for the change", 2, park.job(1, 3));
        Check.due("cost and hands", "90 9", Check.row(7, 8, park::count));
        park.undo();
        park.set(1, 1);
        park.pass(1);
        Check.due("9 hands from the change on", "5/0", queue(park));
        Check.due("1 of 6 hands", 5, park.job(0, 3));
        Check.due("the filter is new", "0 1", park.fountain(5, 2) + " " + park.fountain(5, 8));
    }

    private static void jobsByReport() {
        FountainPark park = new FountainPark();
        park.set(0, 0);
        park.set(3, 0);
        park.build(6, 90, 10, false);
        park.build(1, 90, 10, false);
        park.build(3, 90, 10, true);
        park.frost(0, 0);
        park.plan(0, 20, 3);
        park.pass(1);
        Check.due("bursts and a filter of one day", "1/0 6/0 3/1", queue(park));
        park.set(1, 2);
        Check.due("by places, without kinds", "1/0 3/1 6/0", queue(park));
        park.set(1, 1);
        Check.due("changes first", "3/1 1/0 6/0", queue(park));
        park.set(1, 2);
        park.heat(3, false);
        park.build(0, 90, 10, false);
        park.frost(1, 1);
        park.pass(1);
        Check.due("earlier reports first", "1/0 3/1 6/0 0/0 3/0", queue(park));
        park.set(1, 0);
        Check.due("mending first, by reports", "1/0 6/0 0/0 3/0 3/1", queue(park));
    }

    private static void biggerOutingsFirst() {
        FountainPark park = new FountainPark();
        park.set(3, 0);
        park.build(0, 10, 900, true);
        park.build(7, 10, 900, true);
        park.plan(0, 15, 0);
        park.plan(0, 16, 0);
        Check.due("16 drink, 4 of 15 drink", 11, park.pass(1));
        park.plan(1, 20, 7);
        park.plan(1, 20, 5);
        Check.due("of several the one that was planned first", 20, park.pass(1));
        Check.due("outings are over", 0, park.count(4));
        Check.due("guests", 71, park.count(6));
        Check.due("thirsty", 31, park.count(5));
    }

    private static void nearestFirst() {
        FountainPark park = new FountainPark();
        park.set(3, 0);
        for (int place = 0; place < 8; place++) {
            park.build(place, 1, 900, true);
        }
        park.plan(0, 9, 4);
        Check.due("9 children drink", 0, park.pass(1));
        Check.due("4, 3, 5, 2, then half of 6", "0 0 4 4 4 4 2 0", Check.row(0, 7, p -> park.fountain(p, 7)));
        park.plan(1, 99, 0);
        Check.due("three in reach give 6", 93, park.pass(1));
        Check.due("0, 1, 2", "4 4 8 4 4 4 2 0", Check.row(0, 7, p -> park.fountain(p, 7)));
        park.plan(2, 3, 7);
        park.pass(1);
        Check.due("7, then 6", "4 4 8 4 4 4 4 4", Check.row(0, 7, p -> park.fountain(p, 7)));
    }

    /** However long ago the other kind was reported. */
    private static void oldJobsStayInOrder() {
        FountainPark park = new FountainPark();
        park.set(0, 0);
        park.build(0, 10, 10, true);
        park.plan(0, 20, 0);
        for (int i = 0; i < 16; i++) {
            park.pass(60);
        }
        park.build(7, 10, 900, false);
        park.frost(960, 999);
        park.pass(39);
        Check.due("mending first", "7/0 0/1", queue(park));
        park.set(1, 1);
        Check.due("changes first", "0/1 7/0", queue(park));
        park.set(1, 2);
        Check.due("no kind first", "0/1 7/0", queue(park));
    }

    private static void thirstIsRoundedUp() {
        FountainPark park = new FountainPark();
        park.set(3, 0);
        park.set(2, 9);
        park.build(2, 1, 900, true);
        park.plan(0, 1, 2);
        Check.due("4 of 9 quarters are not enough", 1, park.pass(1));
        park.set(2, 3);
        park.plan(1, 2, 2);
        Check.due("4 of 6 quarters: one is thirsty", 1, park.pass(1));
        park.set(2, 2);
        park.plan(2, 2, 2);
        Check.due("4 of 4 quarters: none", 0, park.pass(1));
        park.plan(3, 1, 7);
        Check.due("none in reach", 1, park.pass(1));
        park.set(2, 1);
        park.plan(4, 6, 2);
        Check.due("4 of 6 quarters, one for each", 2, park.pass(1));
    }

    private static void flowOfTheDay() {
        FountainPark park = new FountainPark();
        park.build(2, 6, 900, true);
        park.plan(0, 4, 2);
        park.plan(0, 5, 3);
        Check.due("they drink 18 of 24", 0, park.pass(1));
        Check.due("6 are left for visitors", 24, park.fountain(2, 7));
        park.pass(1);
        Check.due("a new day has a new flow", 44, park.fountain(2, 7));
    }

    private static void visitors() {
        FountainPark park = new FountainPark();
        park.set(3, 90);
        park.build(0, 90, 900, true);
        park.build(1, 89, 900, true);
        park.build(2, 90, 10, true);
        park.pass(1);
        Check.due("all that visitors want", 360, park.fountain(0, 2));
        Check.due("as far as the flow allows", 356, park.fountain(1, 2));
        Check.due("as far as the filter allows", 40, park.fountain(2, 2));
        Check.due("all together", 756, park.count(9));
        Check.due("a filter that is used up", "2 1 0 2", Check.row(0, 3, what -> park.job(0, what)));
        Check.due("closes", 5, park.fountain(2, 6));
        Check.due("visitors are no guests", "0 0", park.count(5) + " " + park.count(6));
    }

    private static void filterClosesAtOnce() {
        FountainPark park = new FountainPark();
        park.set(0, 0);
        park.build(3, 90, 10, true);
        park.plan(0, 15, 3);
        park.plan(0, 12, 3);
        Check.due("5 of 12 drink", 7, park.pass(1));
        Check.due("nothing for visitors", 40, park.fountain(3, 7));
        park.pass(3);
        Check.due("nothing ever since", 40, park.fountain(3, 7));
        park.set(0, 1);
        park.pass(1);
        Check.due("one of two hands", 1, park.job(0, 3));
        park.pass(1);
        Check.due("a new filter", "20 60 1 0", park.fountain(3, 2) + " " + park.fountain(3, 7) + " "
                + park.fountain(3, 8) + " " + park.count(3));
    }

    /** The crew comes before the outings, and those before the visitors. */
    private static void dayRunsInOrder() {
        FountainPark park = new FountainPark();
        park.set(3, 2);
        park.build(3, 10, 10, false);
        park.plan(0, 20, 3);
        park.pass(1);
        park.plan(1, 17, 3);
        Check.due("the filter is changed ahead of the outing", 0, park.pass(1));
        Check.due("visitors get the rest", 40, park.fountain(3, 2));
        park.frost(2, 2);
        park.plan(2, 1, 3);
        Check.due("the frost comes ahead of the outing", 1, park.pass(1));
        Check.due("hands on the frosty day", "40 4", Check.row(7, 8, park::count));
        park.set(0, 6);
        park.plan(3, 1, 3);
        Check.due("the mending comes ahead of the outing", 0, park.pass(1));
        Check.due("one child and visitors", 10, park.fountain(3, 2));
    }
}
