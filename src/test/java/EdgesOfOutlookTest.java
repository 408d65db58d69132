import java.math.BigInteger;
import java.util.ArrayList;
import java.util.List;

/** Promises 23 to 29 at their edges: ifPassed, ifOuting, bestGate, daysToFilter, bestOrder, fed, digest. */
public final class EdgesOfOutlookTest {
    public static void main(String[] args) {
        ifPassedRanges();
        ifPassedBehindTheEnd();
        ifPassedIsPass();
        ifOutingRanges();
        ifOutingWithSixteen();
        ifOutingAnswers();
        bestGateRange();
        bestGateAnswers();
        bestGateIsAGate();
        daysToFilterRange();
        daysToFilterAnswers();
        daysToFilterBehindTheEnd();
        bestOrderRange();
        bestOrderAnswers();
        fed();
        digestOverflows();
        digestOfTheBuffer();
        digestOfThirtyChildren();
        digestOfSevenDays();
        nothingIsChanged();
        Check.end();
    }

    private static void ifPassedRanges() {
        for (int w = 0; w < 4; w++) {
            int what = w;
            Edges.range("P23 days: 1 to 60", Edges.ARGUMENT, 1, 60, Edges::busy,
                    (park, days) -> park.ifPassed(days, what));
            Edges.range("P23 days: 1 to 60, on the last day", Edges.ARGUMENT, 1, 60, () -> Edges.onDay(999),
                    (park, days) -> park.ifPassed(days, what));
        }
        for (int d : new int[] {1, 30, 60}) {
            Edges.range("P23 what: 0 to 3", Edges.ARGUMENT, 0, 3, Edges::busy, (park, what) -> park.ifPassed(d, what));
        }
        Edges.refused("P23 days and what", Edges.ARGUMENT, Edges::busy, park -> park.ifPassed(0, 4));
    }

    /** On the day 998: an outing on each of the last two days, a frost on the last one. */
    private static FountainPark nearTheEnd() {
        FountainPark park = Edges.onDay(998);
        park.build(2, 20, 900, false);
        park.plan(998, 41, 2);
        park.plan(999, 50, 2);
        park.frost(999, 999);
        return park;
    }

    private static void ifPassedBehindTheEnd() {
        FountainPark park = nearTheEnd();
        int[] days = {1, 2, 3, 4, 60};
        int[] thirsty = {1, 51, 51, 51, 51};
        int[] cost = {0, 0, 40, 60, 60};
        int[] jobs = {0, 1, 1, 0, 0};
        int[] open = {0, 0, 0, 1, 1};
        for (int i = 0; i < days.length; i++) {
            String there = " behind " + days[i] + " days";
            Check.due("P23 the day 999 does not matter: thirsty" + there, thirsty[i], park.ifPassed(days[i], 0));
            Check.due("P23 the day 999 does not matter: cost" + there, cost[i], park.ifPassed(days[i], 1));
            Check.due("P23 the day 999 does not matter: jobs" + there, jobs[i], park.ifPassed(days[i], 2));
            Check.due("P23 days behind it are not frosty: open" + there, open[i], park.ifPassed(days[i], 3));
        }
        Check.due("P23 the day is the same", 998, park.count(0));
        FountainPark empty = Edges.onDay(999);
        Check.due("P23 nothing", "0 0 0 0", Check.row(0, 3, what -> empty.ifPassed(60, what)));
    }

    private static void ifPassedIsPass() {
        for (int days = 1; days <= 60; days++) {
            FountainPark park = Edges.busy();
            String want = Check.row(0, 3, whatIf(park, days));
            int cost = park.count(7);
            int thirsty = park.pass(days);
            String got = thirsty + " " + (park.count(7) - cost) + " " + park.count(3) + " " + park.count(2);
            Check.due("P23 what " + days + " days would bring", got, want);
        }
    }

    private static java.util.function.IntUnaryOperator whatIf(FountainPark park, int days) {
        return what -> park.ifPassed(days, what);
    }

    private static void ifOutingRanges() {
        Edges.range("P24 children: 1 to 99", Edges.ARGUMENT, 1, 99, Edges::busy,
                (park, children) -> park.ifOuting(children, 3));
        Edges.range("P24 gate: 0 to 7", Edges.ARGUMENT, 0, 7, Edges::busy, (park, gate) -> park.ifOuting(50, gate));
        Edges.refused("P24 children and gate", Edges.ARGUMENT, Edges::busy, park -> park.ifOuting(0, 8));
    }

    /** 16 outings of the present day, which drink 160 of the 168 quarters at 3. */
    private static FountainPark sixteenAtOne() {
        FountainPark park = new FountainPark();
        park.build(3, 42, 900, true);
        for (int i = 0; i < 16; i++) {
            park.plan(0, 5, 3);
        }
        return park;
    }

    private static void ifOutingWithSixteen() {
        FountainPark park = sixteenAtOne();
        Check.due("P24 a 17th that is the last one finds 4 quarters of 8", 0, park.ifOuting(4, 3));
        Check.due("P24 a 17th as big as the others is the last one", 1, park.ifOuting(5, 3));
        Check.due("P24 a 17th that is the first one", 2, park.ifOuting(6, 3));
        Check.due("P24 a 17th of 99", 15 + 80, park.ifOuting(99, 3));
        Check.due("P24 a 17th out of reach", 99, park.ifOuting(99, 6));
        Check.due("P24 there are 16 still", 16, park.count(4));
        Check.due("P24 the last one is the same", "0 5 3; -1 -1 -1",
                Edges.outingRow(park, 15) + "; " + Edges.outingRow(park, 16));
        Edges.refused("P24 and there is no room", Edges.STATE, EdgesOfOutlookTest::sixteenAtOne,
                p -> p.plan(0, 4, 3));
        FountainPark later = new FountainPark();
        for (int i = 0; i < 16; i++) {
            later.plan(1 + i % 2, 99, 3);
        }
        Check.due("P24 16 outings of other days", 7, later.ifOuting(7, 0));
    }

    private static void ifOutingAnswers() {
        FountainPark none = new FountainPark();
        Check.due("P24 without fountains", 1, none.ifOuting(1, 0));
        Check.due("P24 without fountains", 99, none.ifOuting(99, 7));
        FountainPark park = new FountainPark();
        park.build(0, 10, 900, true);
        park.build(7, 10, 900, true);
        int[] want = {0, 0, 0, 20, 20, 0, 0, 0};
        for (int gate = 0; gate < 8; gate++) {
            Check.due("P24 at most 2 away from " + gate, want[gate], park.ifOuting(20, gate));
        }
        FountainPark last = Edges.onDay(999);
        last.build(0, 10, 900, false);
        Check.due("P24 on the day 999", 1, last.ifOuting(21, 0));
        last.frost(999, 999);
        Check.due("P24 on the day 999, in the frost", 21, last.ifOuting(21, 0));
        FountainPark mended = new FountainPark();
        mended.set(0, 6);
        mended.build(0, 10, 900, false);
        mended.frost(0, 0);
        mended.pass(1);
        Check.due("P24 the crew comes first on that day", 0, mended.ifOuting(20, 0));
        mended.set(0, 5);
        Check.due("P24 the crew is too small", 20, mended.ifOuting(20, 0));
        FountainPark thirst = new FountainPark();
        thirst.build(0, 10, 900, true);
        thirst.plan(0, 99, 7);
        thirst.pass(1);
        thirst.plan(1, 50, 7);
        thirst.plan(1, 30, 0);
        Check.due("P24 who thirsts so far, or without it, does not count", 5, thirst.ifOuting(5, 0));
        Check.due("P24 the 20 that drank thirst instead", 40, thirst.ifOuting(40, 0));
    }

    private static void bestGateRange() {
        Edges.range("P25 children: 1 to 99", Edges.ARGUMENT, 1, 99, Edges::busy, FountainPark::bestGate);
        Edges.range("P25 children: 1 to 99, with 16 outings", Edges.ARGUMENT, 1, 99,
                EdgesOfOutlookTest::sixteenAtOne, FountainPark::bestGate);
    }

    private static void bestGateAnswers() {
        Check.due("P25 of several the lowest", 0, new FountainPark().bestGate(99));
        int[] want = {0, 0, 0, 1, 2, 3, 4, 5};
        for (int place = 0; place < 8; place++) {
            FountainPark park = new FountainPark();
            park.build(place, 1, 900, true);
            Check.due("P25 the lowest that reaches " + place, want[place], park.bestGate(1));
            Check.due("P25 the lowest that reaches " + place, want[place], park.bestGate(99));
        }
        FountainPark park = new FountainPark();
        for (int place = 3; place < 8; place++) {
            park.build(place, 10, 900, true);
        }
        Check.due("P25 the lowest that reaches one", 1, park.bestGate(20));
        Check.due("P25 the lowest that reaches two", 2, park.bestGate(21));
        Check.due("P25 the lowest that reaches three", 3, park.bestGate(60));
        Check.due("P25 the lowest that reaches four", 4, park.bestGate(80));
        Check.due("P25 the only one that reaches five", 5, park.bestGate(81));
        park.drain(3, true);
        park.drain(4, true);
        park.drain(5, true);
        park.drain(6, true);
        Check.due("P25 the lowest that reaches the last place", 5, park.bestGate(99));
        for (int gate = 0; gate < 7; gate++) {
            park.plan(0, 99, gate);
        }
        int best = park.bestGate(7);
        int least = Integer.MAX_VALUE;
        int lowest = -1;
        for (int gate = 7; gate >= 0; gate--) {
            if (park.ifOuting(7, gate) <= least) {
                least = park.ifOuting(7, gate);
                lowest = gate;
            }
        }
        Check.due("P25 the least ifOuting, of several the lowest", lowest, best);
    }

    /**
     * Beside the row it would be better still: from there the outing reaches the fountain at the end, but not the one
     * that a planned outing shares with it.
     */
    private static void bestGateIsAGate() {
        for (boolean isMirrored : new boolean[] {false, true}) {
            FountainPark park = new FountainPark();
            park.set(2, 9);
            park.build(isMirrored ? 0 : 7, 61, 900, true);
            park.build(isMirrored ? 2 : 5, 1, 900, true);
            park.build(isMirrored ? 6 : 1, 2, 900, true);
            park.plan(0, 1, isMirrored ? 4 : 3);
            Check.due("P25 without it nobody is thirsty", 0, park.ifPassed(1, 0));
            Check.due("P25 three of its children, and the other child", 4, park.ifOuting(30, isMirrored ? 0 : 7));
            Check.due("P25 the gate is one of 0 to 7", isMirrored ? 0 : 5, park.bestGate(30));
        }
    }

    private static void daysToFilterRange() {
        Edges.range("P26 place: 0 to 7", Edges.INDEX, 0, 7, Edges::busy, FountainPark::daysToFilter);
        Edges.range("P26 place: 0 to 7, without fountains", Edges.INDEX, 0, 7, FountainPark::new,
                FountainPark::daysToFilter);
    }

    private static void daysToFilterAnswers() {
        FountainPark park = new FountainPark();
        park.set(3, 1);
        for (int i = 0; i < 8; i++) {
            Check.due("P26 there is none", -1, park.daysToFilter(i));
        }
        int[] filters = {10, 11, 59, 60, 61, 62, 900};
        int[] want = {10, 11, 59, 60, -1, -1, -1};
        for (int i = 0; i < 7; i++) {
            park.build(i, 1, filters[i], true);
            Check.due("P26 a litre a day for " + filters[i], want[i], park.daysToFilter(i));
        }
        park.pass(1);
        Check.due("P26 one day less: 9", 9, park.daysToFilter(0));
        Check.due("P26 one day less: 60", 60, park.daysToFilter(4));
        Check.due("P26 not behind 60 days", -1, park.daysToFilter(5));
        park.pass(8);
        Check.due("P26 behind one day", 1, park.daysToFilter(0));
        park.pass(1);
        Check.due("P26 it is now", 0, park.daysToFilter(0));
        Check.due("P26 behind one day", 1, park.daysToFilter(1));
        park.pass(1);
        Check.due("P26 the new filter, of which a day is gone", 9, park.daysToFilter(0));
        Check.due("P26 it is now", 0, park.daysToFilter(1));
        park.remove(1);
        Check.due("P26 there is none any more", -1, park.daysToFilter(1));
        park.set(3, 0);
        Check.due("P26 nothing is given", -1, park.daysToFilter(0));
        park.plan(13, 99, 0);
        Check.due("P26 an outing brings 36 quarters near, not to the end", -1, park.daysToFilter(0));
        for (int day = 14; day < 22; day++) {
            park.plan(day, 99, 0);
        }
        Check.due("P26 nine outings, the last one on the day 21", 11, park.daysToFilter(0));
    }

    private static void daysToFilterBehindTheEnd() {
        FountainPark park = Edges.onDay(999);
        park.set(3, 1);
        park.build(0, 1, 60, false);
        park.build(1, 1, 61, false);
        park.build(2, 1, 10, false);
        Check.due("P26 behind 60 days, of which one is a day", 60, park.daysToFilter(0));
        Check.due("P26 not behind 60 days", -1, park.daysToFilter(1));
        Check.due("P26 behind ten", 10, park.daysToFilter(2));
        park.frost(999, 999);
        park.set(0, 20);
        Check.due("P26 mended behind the day 999", 11, park.daysToFilter(2));
    }

    private static void bestOrderRange() {
        Edges.range("P27 days: 1 to 30", Edges.ARGUMENT, 1, 30, Edges::busy, FountainPark::bestOrder);
        Edges.range("P27 days: 1 to 30, on the last day", Edges.ARGUMENT, 1, 30, () -> Edges.onDay(999),
                FountainPark::bestOrder);
    }

    private static void bestOrderAnswers() {
        for (int days = 1; days <= 30; days++) {
            Check.due("P27 of several the lowest", 0, new FountainPark().bestOrder(days));
        }
        FountainPark park = EdgesOfLooksTest.withSixteenJobs();
        park.set(0, 2);
        park.set(1, 2);
        for (int order = 0; order < 3; order++) {
            park.set(1, order);
            Check.due("P27 no order opens one in 7 days", 0, park.bestOrder(7));
            Check.due("P27 the order stays", order, park.setting(1));
        }
        // the days 999 and behind: a burst at 1 and a filter at 6, whose changes are tried behind the end
        FountainPark last = Edges.onDay(997);
        last.set(0, 1);
        last.set(3, 0);
        last.build(1, 10, 900, false);
        last.build(6, 10, 10, true);
        last.frost(997, 997);
        last.plan(997, 20, 6);
        last.pass(1);
        last.plan(999, 20, 6);
        Check.due("P27 two days: the filter for the outing of the day 999", 1, last.bestOrder(2));
        last.callOff(999);
        Check.due("P27 7 days, behind the day 999: both orders open one", 0, last.bestOrder(7));
        Check.due("P27 5 days: the filter alone is open", 1, last.bestOrder(5));
        Check.due("P27 8 days: both are open", 0, last.bestOrder(8));
    }

    private static void fed() {
        Check.dueShare("P28 1.0 if there were none", 1.0, new FountainPark().fed());
        FountainPark planned = new FountainPark();
        planned.plan(5, 99, 0);
        planned.pass(5);
        Check.dueShare("P28 1.0 if there were none so far", 1.0, planned.fed());
        planned.pass(1);
        Check.dueShare("P28 all are thirsty", 0.0, planned.fed());
        planned.undo();
        Check.dueShare("P28 1.0 behind undo", 1.0, planned.fed());
        FountainPark one = new FountainPark();
        one.plan(0, 1, 0);
        one.pass(1);
        Check.dueShare("P28 one child, which is thirsty", 0.0, one.fed());
        digestIsDue("P29 the bits of 0.0", one, "");
        FountainPark all = new FountainPark();
        all.build(0, 90, 900, true);
        all.plan(0, 99, 0);
        all.pass(1);
        Check.dueShare("P28 nobody is thirsty", 1.0, all.fed());
        for (int children = 1; children <= 99; children++) {
            FountainPark park = new FountainPark();
            park.build(0, 1, 900, true);
            park.plan(0, children, 0);
            park.pass(1);
            Check.dueShare("P28 two of " + children, Math.min(2, children) / (double) children, park.fed());
            digestIsDue("P29 the bits of " + children, park, "");
        }
        FountainPark many = new FountainPark();
        many.build(0, 1, 10, true);
        for (int i = 0; i < 60; i++) {
            many.plan(i, 99, i % 8);
            many.pass(1);
        }
        Check.dueShare("P28 of 5940", (5940 - many.count(5)) / 5940.0, many.fed());
        digestIsDue("P29 the bits of a small share", many, "");
    }

    private static void digestOverflows() {
        digestIsDue("P29 a new park", new FountainPark(), "");
        digestIsDue("P29 a busy park", Edges.busy(), "5:1@2");
        digestIsDue("P29 no fountains", Edges.empty(), "5:1@2;");
        digestIsDue("P29 8 fountains", Edges.full(), "");
        digestIsDue("P29 16 jobs", EdgesOfLooksTest.withSixteenJobs(), "");
        digestIsDue("P29 16 outings", sixteenAtOne(), "");
        digestIsDue("P29 near the end", nearTheEnd(), "");
        FountainPark frosts = new FountainPark();
        for (int i = 0; i < 6; i++) {
            frosts.frost(i * 100, i * 100 + 50);
        }
        digestIsDue("P29 6 frosts", frosts, "");
    }

    private static void digestOfTheBuffer() {
        StringBuilder buffer = new StringBuilder();
        for (int i = 0; i <= 60; i++) {
            FountainPark park = new FountainPark();
            Check.write(park, buffer.toString());
            digestIsDue("P29 the buffer of " + i, park, buffer.toString());
            buffer.append((char) (i % 2 == 0 ? 33 + i : 126 - i));
        }
    }

    /** Parks in which 29 or 31 children would have another best gate. */
    private static void digestOfThirtyChildren() {
        for (int flow = 28; flow <= 31; flow++) {
            FountainPark park = new FountainPark();
            park.set(2, 4);
            park.build(0, flow, 900, true);
            park.build(7, flow + 1, 900, true);
            Check.due("P25 as many as the first one has litres", 0, park.bestGate(flow));
            Check.due("P25 one more", 5, park.bestGate(flow + 1));
            digestIsDue("P29 bestGate of 30 with " + flow, park, "");
        }
    }

    /** Parks in which 6 or 8 days would have another best order. */
    private static void digestOfSevenDays() {
        FountainPark six = withBurstsAndAFilter(1, 2);
        six.frost(1, 1);
        Check.due("P27 6 days: the filter alone", 1, six.bestOrder(6));
        Check.due("P27 7 days: the mending is done", 0, six.bestOrder(7));
        digestIsDue("P29 bestOrder of 7, not of 6", six, "");
        FountainPark eight = withBurstsAndAFilter(2, 1);
        eight.plan(8, 20, 7);
        Check.due("P27 7 days: one is open", 0, eight.bestOrder(7));
        Check.due("P27 8 days: the outing at the filter", 1, eight.bestOrder(8));
        digestIsDue("P29 bestOrder of 7, not of 8", eight, "");
    }

    /** A crew of one hand, on the day 1, with bursts from the place 0 on and a filter at 7 that is used up. */
    private static FountainPark withBurstsAndAFilter(int bursts, int each) {
        FountainPark park = new FountainPark();
        park.set(0, 1);
        park.set(2, each);
        park.set(3, 0);
        for (int place = 0; place < bursts; place++) {
            park.build(place, 10, 900, false);
        }
        park.build(7, 10, 10, true);
        park.frost(0, 0);
        park.plan(0, 99, 7);
        park.pass(1);
        return park;
    }

    private static void digestIsDue(String call, FountainPark park, String buffer) {
        Check.due(call, inBigNumbers(listed(park, buffer)), park.digest());
    }

    /** Without any overflow, of which the low 64 bits are kept at the end. */
    private static long inBigNumbers(List<Long> values) {
        BigInteger hash = BigInteger.valueOf(2851);
        for (long value : values) {
            hash = hash.multiply(BigInteger.valueOf(31)).add(BigInteger.valueOf(value));
        }
        Check.due("P29 it overflows", 1, hash.bitLength() > 64 ? 1 : 0);
        return hash.longValue();
    }

    private static List<Long> listed(FountainPark park, String buffer) {
        List<Long> values = new ArrayList<>();
        for (int what = 0; what <= 11; what++) {
            values.add((long) park.count(what));
        }
        for (int setting = 0; setting <= 4; setting++) {
            values.add((long) park.setting(setting));
        }
        for (int place = 0; place <= 7; place++) {
            for (int what = 0; what <= 9; what++) {
                values.add((long) park.fountain(place, what));
            }
            values.add((long) park.daysToFilter(place));
        }
        addRows(values, park.count(3), 3, park::job);
        int frosts = 0;
        while (park.frostOf(frosts, 0) != -1) {
            frosts++;
        }
        addRows(values, frosts, 1, park::frostOf);
        addRows(values, park.count(4), 2, park::outing);
        for (int what = 0; what <= 3; what++) {
            values.add((long) park.ifPassed(10, what));
        }
        for (int gate = 0; gate <= 7; gate++) {
            values.add((long) park.ifOuting(20, gate));
        }
        values.add((long) park.bestGate(30));
        values.add((long) park.bestOrder(7));
        values.add(Double.doubleToLongBits(park.fed()));
        values.add((long) buffer.length());
        for (int i = 0; i < buffer.length(); i++) {
            values.add((long) buffer.charAt(i));
        }
        return values;
    }

    private static void addRows(List<Long> values, int rows, int last, java.util.function.IntBinaryOperator look) {
        for (int row = 0; row < rows; row++) {
            for (int what = 0; what <= last; what++) {
                values.add((long) look.applyAsInt(row, what));
            }
        }
    }

    private static void nothingIsChanged() {
        Edges.changesNothing("P23 ifPassed", Edges::busy, park -> park.ifPassed(60, 0));
        Edges.changesNothing("P24 ifOuting", Edges::busy, park -> park.ifOuting(99, 3));
        Edges.changesNothing("P24 ifOuting", EdgesOfOutlookTest::sixteenAtOne, park -> park.ifOuting(99, 3));
        Edges.changesNothing("P25 bestGate", Edges::busy, park -> park.bestGate(99));
        Edges.changesNothing("P26 daysToFilter", Edges::busy, park -> park.daysToFilter(0));
        Edges.changesNothing("P27 bestOrder", Edges::busy, park -> park.bestOrder(30));
        Edges.changesNothing("P28 fed", Edges::busy, park -> (long) park.fed());
        Edges.changesNothing("P29 digest", Edges::busy, FountainPark::digest);
    }
}
