/** Promises 23 to 29: ifPassed, ifOuting, bestGate, daysToFilter, bestOrder, fed, digest. */
public final class OutlookTest {
    public static void main(String[] args) {
        ifPassed();
        ifPassedAtTheEnd();
        ifOuting();
        ifOutingWithSixteen();
        bestGate();
        daysToFilter();
        daysToFilterOfClosed();
        bestOrderByThirst();
        bestOrderByOpen();
        bestOrderOfAPlainPark();
        bestOrderWithoutKinds();
        fed();
        digestOfANewPark();
        digestByItsList();
        outlooksChangeNothing();
        outlooksThrow();
        Check.end();
    }

    private static FountainPark busyPark() {
        FountainPark park = new FountainPark();
        park.build(0, 10, 10, false);
        park.build(1, 5, 900, true);
        park.build(5, 30, 40, false);
        park.frost(2, 3);
        park.plan(0, 50, 0);
        park.plan(1, 60, 3);
        park.plan(3, 70, 2);
        return park;
    }

    private static void ifPassed() {
        for (int days = 1; days <= 60; days++) {
            FountainPark park = busyPark();
            park.set(3, 7);
            int thirsty = park.ifPassed(days, 0);
            int cost = park.ifPassed(days, 1);
            int jobs = park.ifPassed(days, 2);
            int open = park.ifPassed(days, 3);
            Check.due("thirsty in " + days, thirsty, park.pass(days));
            Check.due("cost of " + days, cost, park.count(7));
            Check.due("jobs behind " + days, jobs, park.count(3));
            Check.due("open behind " + days, open, park.count(2));
        }
        FountainPark park = busyPark();
        Check.due("thirsty in a day", 50 - 20 - 10, park.ifPassed(1, 0));
        Check.due("cost of two days", 20, park.ifPassed(2, 1));
        park.pass(2);
        Check.due("only what comes counts for thirst", 70 - 10, park.ifPassed(2, 0));
        Check.due("only what comes counts for cost", 0, park.ifPassed(2, 1));
        Check.due("jobs behind two days", 2, park.ifPassed(2, 2));
        Check.due("open behind a day, in the frost", 1, park.ifPassed(1, 3));
        Check.due("still being mended behind the frost", 1, park.ifPassed(3, 3));
        Check.due("0 is mended on the day 5, and its filter used up", 1, park.ifPassed(4, 3));
        Check.due("5 is mended on the day 6, and its filter used up", 1, park.ifPassed(5, 3));
        Check.due("both filters are changed on the day 7", 3, park.ifPassed(6, 3));
    }

    private static void ifPassedAtTheEnd() {
        FountainPark park = new FountainPark();
        park.build(0, 10, 900, false);
        for (int i = 0; i < 16; i++) {
            park.pass(60);
        }
        park.pass(39);
        park.remove(0);
        park.build(0, 10, 900, false);
        park.frost(999, 999);
        park.plan(999, 10, 0);
        Check.due("the outing of the day 999", 10, park.ifPassed(1, 0));
        Check.due("the burst of the day 999", 1, park.ifPassed(1, 2));
        Check.due("no frost behind it", 0, park.ifPassed(3, 2));
        Check.due("open far behind it", 1, park.ifPassed(60, 3));
        Check.due("cost behind it", 60, park.ifPassed(60, 1));
        park.heat(0, true);
        Check.due("the filter behind it", -1, park.daysToFilter(0));
        park.set(3, 20);
        Check.due("the filter behind it, at 40 a day", -1, park.daysToFilter(0));
        park.remove(0);
        park.build(0, 20, 900, true);
        Check.due("the filter behind it, at 80 a day", 45, park.daysToFilter(0));
        Check.due("one more outing on the day 999", 0, park.ifOuting(10, 0));
        Check.due("orders behind it", 0, park.bestOrder(30));
    }

    private static void ifOuting() {
        FountainPark park = new FountainPark();
        park.build(3, 10, 900, true);
        Check.due("20 children drink", 0, park.ifOuting(20, 3));
        Check.due("one of 21 is thirsty", 1, park.ifOuting(21, 3));
        Check.due("out of reach", 21, park.ifOuting(21, 6));
        Check.due("one child out of reach", 1, park.ifOuting(1, 0));
        park.plan(0, 15, 3);
        Check.due("5 are left for it", 0, park.ifOuting(5, 5));
        Check.due("a smaller one comes behind", 9, park.ifOuting(14, 1));
        Check.due("a bigger one comes first: the other one thirsts", 11, park.ifOuting(16, 3));
        Check.due("as big: it comes behind", 10, park.ifOuting(15, 3));
        park.plan(0, 1, 7);
        Check.due("who thirsts without it does not count", 9, park.ifOuting(14, 1));
        park.plan(1, 99, 3);
        Check.due("other days do not matter", 9, park.ifOuting(14, 1));
        park.frost(0, 0);
        park.heat(3, false);
        Check.due("in the frost", 14, park.ifOuting(14, 1));
    }

    private static void ifOutingWithSixteen() {
        FountainPark park = new FountainPark();
        park.set(3, 0);
        park.build(3, 90, 900, true);
        for (int i = 0; i < 16; i++) {
            park.plan(0, 10, 3);
        }
        Check.due("16 outings and one more", 79, park.ifOuting(99, 4));
        Check.due("16 outings and a small one", 0, park.ifOuting(9, 4));
        Check.due("the best gate for it", 1, park.bestGate(20));
        Check.due("there are still 16", 16, park.count(4));
        Check.dueState("and no more", () -> park.plan(0, 1, 1));
    }

    private static void bestGate() {
        FountainPark park = new FountainPark();
        Check.due("without fountains", 0, park.bestGate(5));
        park.build(6, 10, 900, true);
        Check.due("the lowest in reach", 4, park.bestGate(20));
        Check.due("the lowest in reach of one child", 4, park.bestGate(1));
        Check.due("the lowest in reach, though some thirst", 4, park.bestGate(99));
        park.build(7, 10, 900, true);
        Check.due("one is enough", 4, park.bestGate(20));
        Check.due("two are needed", 5, park.bestGate(21));
        park.plan(0, 20, 5);
        Check.due("6 is empty", 5, park.bestGate(20));
        park.build(0, 10, 900, true);
        Check.due("0 is full", 0, park.bestGate(20));
        Check.due("at 5 it would leave the others thirsty, as many as of its own at 0", 0, park.bestGate(40));
    }

    private static void daysToFilter() {
        FountainPark park = new FountainPark();
        park.set(0, 1);
        park.build(0, 10, 10, false);
        park.build(1, 5, 300, false);
        park.build(2, 5, 301, false);
        park.build(3, 90, 10, false);
        park.plan(0, 20, 5);
        Check.due("behind two days", 2, park.daysToFilter(0));
        Check.due("behind 60 days", 60, park.daysToFilter(1));
        Check.due("not behind 60 days", -1, park.daysToFilter(2));
        Check.due("behind a day", 1, park.daysToFilter(3));
        Check.due("there is none", -1, park.daysToFilter(4));
        park.pass(1);
        Check.due("now", 0, park.daysToFilter(3));
        Check.due("behind a day", 1, park.daysToFilter(0));
        Check.due("behind 59 days", 59, park.daysToFilter(1));
        Check.due("behind 60 days", 60, park.daysToFilter(2));
        park.pass(2);
        Check.due("changed at last, used up again", 2, park.daysToFilter(3) + 1);
    }

    private static void daysToFilterOfClosed() {
        FountainPark park = new FountainPark();
        park.set(0, 1);
        park.build(0, 10, 20, false);
        park.drain(0, true);
        Check.due("drained", -1, park.daysToFilter(0));
        park.drain(0, false);
        Check.due("open", 4, park.daysToFilter(0));
        park.frost(0, 9);
        Check.due("frost for 10 days, 6 days of mending", 19, park.daysToFilter(0));
        park.set(0, 0);
        Check.due("never mended", -1, park.daysToFilter(0));
        park.thaw(0);
        park.pass(4);
        park.drain(0, true);
        Check.due("drained, but used up", 0, park.daysToFilter(0));
    }

    /** A burst at 1, and a filter that is used up at 6, both on the day 0. */
    private static FountainPark withBothJobs(int hands) {
        FountainPark park = new FountainPark();
        park.set(0, hands);
        park.set(3, 0);
        park.build(1, 10, 900, false);
        park.build(6, 10, 10, true);
        park.frost(0, 0);
        park.plan(0, 99, 6);
        park.pass(1);
        return park;
    }

    private static void bestOrderByThirst() {
        FountainPark park = withBothJobs(6);
        park.plan(1, 20, 1);
        Check.due("the burst matters", 0, park.bestOrder(1));
        park.callOff(1);
        park.plan(1, 20, 6);
        Check.due("the filter matters", 1, park.bestOrder(1));
        Check.due("the setting stays", 0, park.setting(1));
        park.set(1, 1);
        Check.due("also from the other order", 1, park.bestOrder(1));
        park.callOff(1);
        Check.due("as many are open", 0, park.bestOrder(1));
    }

    private static void bestOrderByOpen() {
        FountainPark park = withBothJobs(2);
        Check.due("thirst is the same, the change opens one", 1, park.bestOrder(1));
        Check.due("behind 4 days both are open", 0, park.bestOrder(4));
        Check.due("behind 3 days the mending alone opens one too", 0, park.bestOrder(3));
    }

    private static void bestOrderOfAPlainPark() {
        FountainPark park = new FountainPark();
        Check.due("nothing to do", 0, park.bestOrder(30));
        park.set(1, 2);
        Check.due("nothing to do, from the order 2", 0, park.bestOrder(1));
    }

    /** Reported on the day 0: a burst at 0, a filter at 7; on the day 1: a burst at 2, a filter at 4. */
    private static void bestOrderWithoutKinds() {
        FountainPark park = new FountainPark();
        park.set(0, 0);
        park.set(3, 0);
        park.build(0, 10, 900, false);
        park.build(7, 10, 10, true);
        park.build(2, 10, 900, false);
        park.drain(2, true);
        park.build(4, 10, 10, true);
        park.frost(0, 1);
        park.plan(0, 20, 7);
        park.pass(1);
        park.drain(2, false);
        park.plan(1, 20, 4);
        park.pass(1);
        Check.due("four jobs", 4, park.count(3));
        park.set(0, 8);
        park.plan(2, 20, 0);
        park.plan(2, 20, 7);
        Check.due("0 and 7 are opened by the earlier jobs alone", 2, park.bestOrder(1));
        int[] thirsty = {20, 20, 0};
        for (int order = 0; order < 3; order++) {
            park.set(1, order);
            Check.due("thirsty in the order " + order, thirsty[order], park.ifPassed(1, 0));
        }
    }

    private static void fed() {
        FountainPark park = new FountainPark();
        Check.dueShare("nobody", 1.0, park.fed());
        park.build(0, 10, 900, true);
        park.plan(0, 30, 0);
        Check.dueShare("nobody yet", 1.0, park.fed());
        park.pass(1);
        Check.dueShare("20 of 30", 20.0 / 30.0, park.fed());
        park.plan(1, 7, 7);
        park.pass(1);
        Check.dueShare("20 of 37", 20.0 / 37.0, park.fed());
        park.undo();
        Check.dueShare("20 of 30 behind undo", 20.0 / 30.0, park.fed());
        FountainPark dry = new FountainPark();
        dry.plan(0, 1, 3);
        dry.pass(1);
        Check.dueShare("0 of 1", 0.0, dry.fed());
        dry.undo();
        dry.undo();
        dry.plan(0, 3, 3);
        dry.pass(1);
        Check.dueShare("0 of 3", 0.0, dry.fed());
    }

    private static void digestOfANewPark() {
        FountainPark park = new FountainPark();
        Check.due("digest of a new park", byItsList(park, ""), park.digest());
    }

    private static void digestByItsList() {
        FountainPark busy = busyPark();
        Check.due("digest of a busy park", byItsList(busy, ""), busy.digest());
        for (int steps = 0; steps <= 12; steps++) {
            FountainPark park = busyBehind(steps);
            Check.due("digest behind " + steps, byItsList(park, "7:1@1~"), park.digest());
            park.clearBuffer();
            Check.due("digest behind clearBuffer", byItsList(park, ""), park.digest());
        }
    }

    /** A new park each time, as an object stands for 512 calls. */
    private static FountainPark busyBehind(int steps) {
        FountainPark park = busyPark();
        park.set(0, 1);
        Check.write(park, "7:1@1~");
        for (int i = 0; i < steps; i++) {
            park.pass(i % 3 + 1);
            park.plan(park.count(0) + 1, 7 * i + 3, i % 8);
        }
        return park;
    }

    /** The digest from the public answers alone, as the document lists them. */
    private static long byItsList(FountainPark park, String buffer) {
        java.util.List<Long> values = new java.util.ArrayList<>();
        for (int what = 0; what < 12; what++) {
            values.add((long) park.count(what));
        }
        for (int setting = 0; setting < 5; setting++) {
            values.add((long) park.setting(setting));
        }
        for (int place = 0; place < 8; place++) {
            for (int what = 0; what < 10; what++) {
                values.add((long) park.fountain(place, what));
            }
            values.add((long) park.daysToFilter(place));
        }
        for (int job = 0; park.job(job, 0) != -1; job++) {
            for (int what = 0; what < 4; what++) {
                values.add((long) park.job(job, what));
            }
        }
        for (int frost = 0; park.frostOf(frost, 0) != -1; frost++) {
            values.add((long) park.frostOf(frost, 0));
            values.add((long) park.frostOf(frost, 1));
        }
        for (int outing = 0; park.outing(outing, 0) != -1; outing++) {
            for (int what = 0; what < 3; what++) {
                values.add((long) park.outing(outing, what));
            }
        }
        for (int what = 0; what < 4; what++) {
            values.add((long) park.ifPassed(10, what));
        }
        for (int gate = 0; gate < 8; gate++) {
            values.add((long) park.ifOuting(20, gate));
        }
        values.add((long) park.bestGate(30));
        values.add((long) park.bestOrder(7));
        values.add(Double.doubleToLongBits(park.fed()));
        values.add((long) buffer.length());
        for (char code : buffer.toCharArray()) {
            values.add((long) code);
        }
        long hash = 2851;
        for (long value : values) {
            hash = 31 * hash + value;
        }
        return hash;
    }

    private static void outlooksChangeNothing() {
        FountainPark park = busyPark();
        park.pass(2);
        long digest = park.digest();
        park.ifPassed(60, 0);
        park.ifOuting(99, 3);
        park.bestGate(50);
        park.daysToFilter(0);
        park.bestOrder(30);
        park.fed();
        Check.due("nothing is changed", digest, park.digest());
        Check.due("nothing is saved", 6, park.count(11));
    }

    private static void outlooksThrow() {
        FountainPark park = busyPark();
        Check.dueArgument("ifPassed of 0 days", () -> park.ifPassed(0, 0));
        Check.dueArgument("ifPassed of 61 days", () -> park.ifPassed(61, 0));
        Check.dueArgument("ifPassed of what -1", () -> park.ifPassed(1, -1));
        Check.dueArgument("ifPassed of what 4", () -> park.ifPassed(1, 4));
        Check.dueArgument("ifOuting of no children", () -> park.ifOuting(0, 0));
        Check.dueArgument("ifOuting of 100 children", () -> park.ifOuting(100, 0));
        Check.dueArgument("ifOuting at gate -1", () -> park.ifOuting(1, -1));
        Check.dueArgument("ifOuting at gate 8", () -> park.ifOuting(1, 8));
        Check.dueArgument("bestGate of no children", () -> park.bestGate(0));
        Check.dueArgument("bestGate of 100 children", () -> park.bestGate(100));
        Check.dueIndex("daysToFilter(-1)", () -> park.daysToFilter(-1));
        Check.dueIndex("daysToFilter(8)", () -> park.daysToFilter(8));
        Check.dueArgument("bestOrder(0)", () -> park.bestOrder(0));
        Check.dueArgument("bestOrder(31)", () -> park.bestOrder(31));
    }
}
