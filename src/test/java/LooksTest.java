/** Promises 17 to 22: fountain, job, frostOf, outing, count, setting. */
public final class LooksTest {
    public static void main(String[] args) {
        fountain();
        whyClosed();
        fountainThrows();
        job();
        frostOf();
        outing();
        count();
        setting();
        looksChangeNothing();
        Check.end();
    }

    private static void fountain() {
        FountainPark park = new FountainPark();
        park.build(2, 10, 12, false);
        park.pass(2);
        Check.due("behind two days", "10 12 40 0 0 0 0 40 0 0", Check.row(0, 9, what -> park.fountain(2, what)));
        park.pass(1);
        Check.due("used up", "10 12 48 0 0 0 5 48 0 0", Check.row(0, 9, what -> park.fountain(2, what)));
        park.pass(1);
        Check.due("changed", "10 12 20 0 0 0 0 68 1 0", Check.row(0, 9, what -> park.fountain(2, what)));
        park.frost(4, 4);
        park.pass(1);
        Check.due("burst", "10 12 20 0 0 1 2 68 1 1", Check.row(0, 9, what -> park.fountain(2, what)));
        park.heat(2, true);
        park.drain(2, true);
        Check.due("heated and drained", "10 12 20 1 1 1 2 68 1 1", Check.row(0, 9, what -> park.fountain(2, what)));
        Check.due("none beside it", "-1 -1 -1 -1 -1 -1 1 -1 -1 -1", Check.row(0, 9, what -> park.fountain(3, what)));
    }

    private static void whyClosed() {
        FountainPark park = new FountainPark();
        park.set(0, 0);
        Check.due("there is none", 1, park.fountain(4, 6));
        park.build(4, 10, 10, false);
        Check.due("open", 0, park.fountain(4, 6));
        park.plan(0, 99, 4);
        park.pass(1);
        Check.due("used up", 5, park.fountain(4, 6));
        park.frost(1, 1);
        Check.due("the frost is told ahead of the filter", 4, park.fountain(4, 6));
        park.heat(4, true);
        Check.due("heated, but used up", 5, park.fountain(4, 6));
        park.heat(4, false);
        park.drain(4, true);
        Check.due("drained is told ahead of the frost", 3, park.fountain(4, 6));
        park.drain(4, false);
        park.pass(1);
        park.drain(4, true);
        Check.due("broken is told ahead of drained", 2, park.fountain(4, 6));
        park.remove(4);
        Check.due("there is none again", 1, park.fountain(4, 6));
    }

    private static void fountainThrows() {
        FountainPark park = new FountainPark();
        park.build(0, 10, 10, false);
        Check.dueIndex("place -1", () -> park.fountain(-1, 99));
        Check.dueIndex("place 8", () -> park.fountain(8, 0));
        Check.dueArgument("what -1", () -> park.fountain(0, -1));
        Check.dueArgument("what 10", () -> park.fountain(0, 10));
        Check.dueArgument("what 10 where there is none", () -> park.fountain(1, 10));
    }

    private static void job() {
        FountainPark park = new FountainPark();
        park.set(0, 1);
        park.build(7, 10, 10, false);
        park.build(0, 10, 11, false);
        park.pass(3);
        Check.due("two filters of two days", "7 1 1 0", park.job(0, 0) + " " + park.job(0, 1) + " " + park.job(0, 2)
                + " " + (park.job(0, 3) - 1));
        Check.due("the second", "0 1 2 2", Check.row(0, 3, what -> park.job(1, what)));
        Check.due("no third", "-1 -1 -1 -1", Check.row(0, 3, what -> park.job(2, what)));
        Check.due("none far behind", -1, park.job(Integer.MAX_VALUE, 0));
        Check.dueArgument("job -1", () -> park.job(-1, 0));
        Check.dueArgument("what -1", () -> park.job(0, -1));
        Check.dueArgument("what 4", () -> park.job(0, 4));
        Check.dueArgument("what 4 where there is none", () -> park.job(9, 4));
    }

    private static void frostOf() {
        FountainPark park = new FountainPark();
        park.frost(50, 59);
        park.frost(0, 0);
        park.frost(20, 30);
        Check.due("the first", "0 0", Check.row(0, 1, what -> park.frostOf(0, what)));
        Check.due("the second", "20 30", Check.row(0, 1, what -> park.frostOf(1, what)));
        Check.due("the third", "50 59", Check.row(0, 1, what -> park.frostOf(2, what)));
        Check.due("no fourth", "-1 -1", Check.row(0, 1, what -> park.frostOf(3, what)));
        Check.due("none far behind", -1, park.frostOf(Integer.MAX_VALUE, 1));
        park.pass(2);
        Check.due("those that are over stay", 0, park.frostOf(0, 0));
        Check.dueArgument("frost -1", () -> park.frostOf(-1, 0));
        Check.dueArgument("what -1", () -> park.frostOf(0, -1));
        Check.dueArgument("what 2", () -> park.frostOf(0, 2));
    }

    private static void outing() {
        FountainPark park = new FountainPark();
        park.plan(5, 10, 0);
        park.plan(3, 10, 1);
        park.plan(5, 11, 2);
        park.plan(5, 10, 3);
        park.plan(4, 1, 4);
        Check.due("days", "3 4 5 5 5 -1", Check.row(0, 5, o -> park.outing(o, 0)));
        Check.due("children", "10 1 11 10 10 -1", Check.row(0, 5, o -> park.outing(o, 1)));
        Check.due("gates", "1 4 2 0 3 -1", Check.row(0, 5, o -> park.outing(o, 2)));
        Check.due("none far behind", -1, park.outing(Integer.MAX_VALUE, 2));
        park.pass(5);
        Check.due("those that are over are gone", "5 11 2", Check.row(0, 2, what -> park.outing(0, what)));
        Check.dueArgument("outing -1", () -> park.outing(-1, 0));
        Check.dueArgument("what -1", () -> park.outing(0, -1));
        Check.dueArgument("what 3", () -> park.outing(0, 3));
    }

    private static void count() {
        FountainPark park = new FountainPark();
        park.build(0, 10, 10, false);
        park.build(1, 10, 900, true);
        park.build(2, 10, 900, true);
        park.drain(2, true);
        park.plan(0, 30, 1);
        park.plan(2, 30, 1);
        park.frost(3, 3);
        Check.due("at first", "0 3 2 0 2 0 0 0 0 0 0 6", Check.row(0, 11, park::count));
        park.pass(1);
        // 40 quarters at 1, 20 at 0 for 30 children; 20 more at 0 for visitors
        Check.due("behind a day", "1 3 1 1 1 0 30 0 0 80 0 6", Check.row(0, 11, park::count));
        park.pass(2);
        // 20 + 20 on the day 1; 40 and 20 for children on the day 2, and the filter is used up
        Check.due("in the frost", "3 3 1 1 0 0 60 20 2 180 1 6", Check.row(0, 11, park::count));
        park.pass(1);
        Check.due("behind the frost", "4 3 1 1 0 0 60 40 4 200 0 6", Check.row(0, 11, park::count));
        Check.dueArgument("count(-1)", () -> park.count(-1));
        Check.dueArgument("count(12)", () -> park.count(12));
    }

    private static void setting() {
        FountainPark park = new FountainPark();
        park.set(3, 77);
        Check.due("settings", "4 0 2 77 10", Check.row(0, 4, park::setting));
        Check.dueIndex("setting(-1)", () -> park.setting(-1));
        Check.dueIndex("setting(5)", () -> park.setting(5));
    }

    private static void looksChangeNothing() {
        FountainPark park = new FountainPark();
        park.build(0, 10, 10, false);
        park.frost(2, 3);
        park.plan(1, 99, 1);
        park.pass(2);
        Check.write(park, "1:");
        long digest = park.digest();
        park.fountain(0, 6);
        park.job(0, 0);
        park.frostOf(0, 0);
        park.outing(0, 0);
        park.count(3);
        park.setting(1);
        park.firstError();
        Check.due("nothing is changed", digest, park.digest());
    }
}
