/** Promises 17 to 22 at their edges: fountain, job, frostOf, outing, count, setting. */
public final class EdgesOfLooksTest {
    public static void main(String[] args) {
        fountainRanges();
        fountainNone();
        fountainProperties();
        fountainWhyClosed();
        jobRanges();
        jobSixteen();
        frostOfRanges();
        frostOfSix();
        outingRanges();
        outingSixteen();
        countRange();
        countOfNothing();
        countOfAll();
        setting();
        looksChangeNothing();
        Check.end();
    }

    private static void fountainRanges() {
        Edges.range("P17 place: 0 to 7", Edges.INDEX, 0, 7, Edges::busy, (park, place) -> park.fountain(place, 0));
        Edges.range("P17 what: 0 to 9", Edges.ARGUMENT, 0, 9, Edges::busy, (park, what) -> park.fountain(3, what));
        Edges.range("P17 what: 0 to 9, where there is none", Edges.ARGUMENT, 0, 9, Edges::busy,
                (park, what) -> park.fountain(4, what));
        for (int what : new int[] {Integer.MIN_VALUE, -1, 10, Integer.MAX_VALUE}) {
            Edges.refused("P17 no place is named first", Edges.INDEX, Edges::busy, park -> park.fountain(8, what));
            Edges.refused("P17 no place is named first", Edges.INDEX, Edges::busy, park -> park.fountain(-1, what));
        }
    }

    private static void fountainNone() {
        String none = "-1 -1 -1 -1 -1 -1 1 -1 -1 -1";
        FountainPark park = Edges.busy();
        Check.due("P17 there is none", none, Edges.fountainRow(park, 7));
        park.remove(0);
        Check.due("P17 there is none any more, of a broken one", none, Edges.fountainRow(park, 0));
        park.remove(3);
        Check.due("P17 there is none any more, of a drained one", none, Edges.fountainRow(park, 3));
        park.undo();
        Check.due("P17 there is one behind undo", "20 300 120 1 1 0 3 120 0 0", Edges.fountainRow(park, 3));
        FountainPark undone = new FountainPark();
        undone.build(2, 10, 10, true);
        undone.undo();
        Check.due("P17 there is none behind undo", none, Edges.fountainRow(undone, 2));
    }

    private static void fountainProperties() {
        FountainPark park = new FountainPark();
        park.build(0, 1, 10, false);
        park.build(7, 90, 900, true);
        Check.due("P17 the least", "1 10 0 0 0 0 0 0 0 0", Edges.fountainRow(park, 0));
        Check.due("P17 the most", "90 900 0 1 0 0 0 0 0 0", Edges.fountainRow(park, 7));
        park.set(3, 90);
        park.pass(9);
        Check.due("P17 one litre a day", "1 10 36 0 0 0 0 36 0 0", Edges.fountainRow(park, 0));
        Check.due("P17 90 litres a day", "90 900 3240 1 0 0 0 3240 0 0", Edges.fountainRow(park, 7));
        park.pass(1);
        Check.due("P17 used up by one litre a day", "1 10 40 0 0 0 5 40 0 0", Edges.fountainRow(park, 0));
        Check.due("P17 used up by 90 litres a day", "90 900 3600 1 0 0 5 3600 0 0", Edges.fountainRow(park, 7));
        park.pass(1);
        Check.due("P17 the filter is new, what was given stays", "1 10 4 0 0 0 0 44 1 0", Edges.fountainRow(park, 0));
        Check.due("P17 the filter is new, what was given stays", "90 900 360 1 0 0 0 3960 1 0",
                Edges.fountainRow(park, 7));
        park.frost(11, 12);
        park.pass(2);
        Check.due("P17 a burst", "1 10 4 0 0 1 2 44 1 1", Edges.fountainRow(park, 0));
        park.pass(2);
        Check.due("P17 mended by four hands and two", "1 10 8 0 0 0 0 48 1 1", Edges.fountainRow(park, 0));
        park.frost(15, 15);
        park.pass(1);
        Check.due("P17 another burst", "1 10 8 0 0 1 2 48 1 2", Edges.fountainRow(park, 0));
    }

    /** Each reason with all that come behind it, and the next one as soon as it is gone. */
    private static void fountainWhyClosed() {
        FountainPark park = new FountainPark();
        park.set(0, 0);
        park.frost(1, 3);
        Check.due("P17 why: 1, there is none", 1, park.fountain(4, 6));
        park.build(4, 10, 10, true);
        Check.due("P17 why: 0, it is open", 0, park.fountain(4, 6));
        park.plan(0, 20, 4);
        park.pass(1);
        Check.due("P17 why: 5, its filter is used up", 5, park.fountain(4, 6));
        park.heat(4, false);
        Check.due("P17 why: 4 ahead of 5", 4, park.fountain(4, 6));
        park.drain(4, true);
        Check.due("P17 why: 3 ahead of 4 and 5", 3, park.fountain(4, 6));
        park.heat(4, true);
        Check.due("P17 why: 3 ahead of 5", 3, park.fountain(4, 6));
        park.heat(4, false);
        park.drain(4, false);
        park.pass(1);
        Check.due("P17 why: 2 ahead of 4 and 5", 2, park.fountain(4, 6));
        park.drain(4, true);
        Check.due("P17 why: 2 ahead of 3, 4 and 5", 2, park.fountain(4, 6));
        park.pass(2);
        Check.due("P17 why: 2 ahead of 3 and 5", 2, park.fountain(4, 6));
        park.remove(4);
        Check.due("P17 why: 1 again", 1, park.fountain(4, 6));
        for (int place = 0; place < 8; place++) {
            Check.due("P17 why: 1 at every place", 1, park.fountain(place, 6));
        }
    }

    private static void jobRanges() {
        Edges.notBelowZero("P18 job from 0", Edges::busy, (park, job) -> park.job(job, 0));
        Edges.notBelowZero("P18 job from 0, without jobs", FountainPark::new, (park, job) -> park.job(job, 3));
        Edges.range("P18 what: 0 to 3", Edges.ARGUMENT, 0, 3, Edges::busy, (park, what) -> park.job(0, what));
        Edges.range("P18 what: 0 to 3, where there is none", Edges.ARGUMENT, 0, 3, Edges::busy,
                (park, what) -> park.job(99, what));
        Edges.refused("P18 job and what", Edges.ARGUMENT, Edges::busy, park -> park.job(-1, 4));
    }

    /** Eight fountains whose filters are used up on the day 0, and which burst on the day 1. */
    static FountainPark withSixteenJobs() {
        FountainPark park = new FountainPark();
        park.set(0, 0);
        for (int place = 7; place >= 0; place--) {
            park.build(place, 10, 10, false);
        }
        park.set(3, 90);
        park.frost(1, 2);
        park.pass(3);
        return park;
    }

    private static void jobSixteen() {
        FountainPark park = withSixteenJobs();
        Check.due("P18 16 jobs", 16, park.count(3));
        for (int i = 0; i < 8; i++) {
            Check.due("P18 the bursts by places", i + " 0 1 6", Edges.jobRow(park, i));
            Check.due("P18 the filters by places", i + " 1 0 2", Edges.jobRow(park, 8 + i));
        }
        for (int job : new int[] {16, 17, 1000, Integer.MAX_VALUE}) {
            Check.due("P18 not so many", "-1 -1 -1 -1", Edges.jobRow(park, job));
        }
        park.set(1, 1);
        for (int i = 0; i < 8; i++) {
            Check.due("P18 filters first", i + " 1 0 2", Edges.jobRow(park, i));
            Check.due("P18 filters first", i + " 0 1 6", Edges.jobRow(park, 8 + i));
        }
        park.set(1, 0);
        park.set(0, 1);
        park.pass(1);
        Check.due("P18 one hand less", "0 0 1 5", Edges.jobRow(park, 0));
        park.pass(4);
        Check.due("P18 one hand is needed still", "0 0 1 1", Edges.jobRow(park, 0));
        park.pass(1);
        Check.due("P18 it is done", "1 0 1 6", Edges.jobRow(park, 0));
        Check.due("P18 15 are left", "7 1 0 2", Edges.jobRow(park, 14));
        Check.due("P18 not so many any more", "-1 -1 -1 -1", Edges.jobRow(park, 15));
    }

    private static void frostOfRanges() {
        Edges.notBelowZero("P19 frost from 0", Edges::busy, (park, frost) -> park.frostOf(frost, 0));
        Edges.notBelowZero("P19 frost from 0, without frosts", FountainPark::new,
                (park, frost) -> park.frostOf(frost, 1));
        Edges.range("P19 what: 0 or 1", Edges.ARGUMENT, 0, 1, Edges::busy, (park, what) -> park.frostOf(0, what));
        Edges.range("P19 what: 0 or 1, where there is none", Edges.ARGUMENT, 0, 1, Edges::busy,
                (park, what) -> park.frostOf(99, what));
        Edges.refused("P19 frost and what", Edges.ARGUMENT, Edges::busy, park -> park.frostOf(-1, 2));
    }

    private static void frostOfSix() {
        FountainPark park = new FountainPark();
        for (int i = 5; i >= 0; i--) {
            Check.due("P19 not so many", "-1 -1", Edges.frostRow(park, 5 - i));
            park.frost(100 * i, 100 * i + i);
            Check.due("P19 a new one comes first", 100 * i, park.frostOf(0, 0));
        }
        for (int i = 0; i < 6; i++) {
            Check.due("P19 by their first days", 100 * i + " " + 101 * i, Edges.frostRow(park, i));
        }
        for (int frost : new int[] {6, 7, 1000, Integer.MAX_VALUE}) {
            Check.due("P19 not so many", "-1 -1", Edges.frostRow(park, frost));
        }
        park.thaw(0);
        Check.due("P19 one less", "100 101 500 505 -1 -1",
                Edges.frostRow(park, 0) + " " + Edges.frostRow(park, 4) + " " + Edges.frostRow(park, 5));
        FountainPark all = new FountainPark();
        all.frost(0, 999);
        Check.due("P19 the first and the last day", "0 999", Edges.frostRow(all, 0));
    }

    private static void outingRanges() {
        Edges.notBelowZero("P20 outing from 0", Edges::busy, (park, outing) -> park.outing(outing, 0));
        Edges.notBelowZero("P20 outing from 0, without outings", FountainPark::new,
                (park, outing) -> park.outing(outing, 2));
        Edges.range("P20 what: 0 to 2", Edges.ARGUMENT, 0, 2, Edges::busy, (park, what) -> park.outing(0, what));
        Edges.range("P20 what: 0 to 2, where there is none", Edges.ARGUMENT, 0, 2, Edges::busy,
                (park, what) -> park.outing(99, what));
        Edges.refused("P20 outing and what", Edges.ARGUMENT, Edges::busy, park -> park.outing(-1, 3));
    }

    private static void outingSixteen() {
        FountainPark park = new FountainPark();
        for (int i = 15; i >= 0; i--) {
            Check.due("P20 not so many", "-1 -1 -1", Edges.outingRow(park, 15 - i));
            park.plan(i / 4 * 333, 99 - 49 * (i % 2), i % 8);
        }
        // of each day two with 99 and two with 50 children, the ones with the higher gate planned first
        for (int day = 0; day < 4; day++) {
            int gate = 4 * (day % 2);
            Check.due("P20 first 99", 333 * day + " 99 " + (gate + 2), Edges.outingRow(park, 4 * day));
            Check.due("P20 then 99", 333 * day + " 99 " + gate, Edges.outingRow(park, 4 * day + 1));
            Check.due("P20 then 50", 333 * day + " 50 " + (gate + 3), Edges.outingRow(park, 4 * day + 2));
            Check.due("P20 then 50", 333 * day + " 50 " + (gate + 1), Edges.outingRow(park, 4 * day + 3));
        }
        for (int outing : new int[] {16, 17, 1000, Integer.MAX_VALUE}) {
            Check.due("P20 not so many", "-1 -1 -1", Edges.outingRow(park, outing));
        }
        park.pass(1);
        Check.due("P20 four are over", "333 99 6", Edges.outingRow(park, 0));
        Check.due("P20 twelve are left", "999 50 5; -1 -1 -1",
                Edges.outingRow(park, 11) + "; " + Edges.outingRow(park, 12));
    }

    private static void countRange() {
        Edges.range("P21 what: 0 to 11", Edges.ARGUMENT, 0, 11, Edges::busy, FountainPark::count);
        Edges.range("P21 what: 0 to 11, of a new park", Edges.ARGUMENT, 0, 11, FountainPark::new,
                FountainPark::count);
    }

    private static void countOfNothing() {
        FountainPark park = new FountainPark();
        Check.due("P21 of nothing", "0 0 0 0 0 0 0 0 0 0 0 0", Check.row(0, 11, park::count));
        park.frost(0, 998);
        park.pass(1);
        Check.due("P21 a frosty day alone", "1 0 0 0 0 0 0 0 0 0 1 2", Check.row(0, 11, park::count));
        Edges.goTo(park, 998);
        Check.due("P21 the last frosty day", "998 0 0 0 0 0 0 0 0 0 1 6", Check.row(0, 11, park::count));
        park.pass(1);
        Check.due("P21 the last day", "999 0 0 0 0 0 0 0 0 0 0 6", Check.row(0, 11, park::count));
    }

    private static void countOfAll() {
        FountainPark park = withSixteenJobs();
        Check.due("P21 all broken", "3 8 0 16 0 0 0 0 0 320 0 6", Check.row(0, 11, park::count));
        park.set(0, 20);
        park.set(4, 50);
        park.plan(3, 99, 3);
        park.pass(1);
        // three are mended, the next one gets two hands
        Check.due("P21 20 hands", "4 8 0 13 0 99 99 1000 20 320 0 6", Check.row(0, 11, park::count));
        park.pass(3);
        // days of 20, 20 and 16 hands; each filter that is changed is used up by the visitors of that day
        Check.due("P21 all mended, all used up", "7 8 0 8 0 99 99 3800 76 880 0 6", Check.row(0, 11, park::count));
        park.set(3, 0);
        park.pass(1);
        Check.due("P21 all open", "8 8 8 0 0 99 99 4600 92 880 0 6", Check.row(0, 11, park::count));
    }

    private static void setting() {
        Edges.range("P22 setting: 0 to 4", Edges.INDEX, 0, 4, Edges::busy, FountainPark::setting);
        FountainPark park = new FountainPark();
        Check.due("P22 at first", "4 0 2 5 10", Check.row(0, 4, park::setting));
        park.set(0, 20);
        park.set(1, 2);
        park.set(2, 9);
        park.set(3, 90);
        park.set(4, 50);
        Check.due("P22 the most", "20 2 9 90 50", Check.row(0, 4, park::setting));
        park.undo();
        park.undo();
        Check.due("P22 behind undo", "20 2 9 5 10", Check.row(0, 4, park::setting));
    }

    private static void looksChangeNothing() {
        Edges.changesNothing("P17 fountain", Edges::busy, park -> Edges.fountainRow(park, 0).length());
        Edges.changesNothing("P18 job", Edges::busy, park -> Edges.jobRow(park, 0).length());
        Edges.changesNothing("P19 frostOf", Edges::busy, park -> Edges.frostRow(park, 0).length());
        Edges.changesNothing("P20 outing", Edges::busy, park -> Edges.outingRow(park, 0).length());
        Edges.changesNothing("P21 count", Edges::busy, park -> Check.row(0, 11, park::count).length());
        Edges.changesNothing("P22 setting", Edges::busy, park -> Check.row(0, 4, park::setting).length());
    }
}
