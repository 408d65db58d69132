/** Promises 1 to 5 at their edges: a new object, build, remove, drain, heat. */
public final class EdgesOfFountainsTest {
    private static final String NO_FOUNTAIN = "-1 -1 -1 -1 -1 -1 1 -1 -1 -1";

    public static void main(String[] args) {
        newObject();
        objectsAreApart();
        buildRanges();
        buildWhereOneStands();
        buildAnswers();
        buildBeginsAnew();
        remove();
        removeAnswers();
        removeLeavesTheOthers();
        drain();
        heat();
        Check.end();
    }

    private static void newObject() {
        FountainPark park = new FountainPark();
        for (int place = 0; place < 8; place++) {
            Check.due("P1 without fountains: place " + place, NO_FOUNTAIN, Edges.fountainRow(park, place));
            Check.due("P1 without fountains: filter " + place, -1, park.daysToFilter(place));
        }
        Check.due("P1 on the day 0, and nothing is counted", "0 0 0 0 0 0 0 0 0 0 0 0",
                Check.row(0, 11, park::count));
        Check.due("P1 the settings at first", "4 0 2 5 10", Check.row(0, 4, park::setting));
        Check.due("P1 no job", "-1 -1 -1 -1", Edges.jobRow(park, 0));
        Check.due("P1 no frost", "-1 -1", Edges.frostRow(park, 0));
        Check.due("P1 no outing", "-1 -1 -1", Edges.outingRow(park, 0));
        Check.due("P1 with an empty buffer", 0, park.firstError());
        Check.due("P1 with an empty buffer", 0, park.clearBuffer());
        Check.dueShare("P1 nobody is thirsty", 1.0, park.fed());
        Check.due("P1 the day 0 has not passed: a frost", 1, park.frost(0, 0));
        Check.due("P1 the day 0 has not passed: an outing", 1, park.plan(0, 1, 0));
        Check.due("P1 the day 0 has not passed: the outing thirsts", 1, park.pass(1));
        Edges.refused("P1 no saved state", Edges.STATE, FountainPark::new, FountainPark::undo);
    }

    private static void objectsAreApart() {
        FountainPark touched = new FountainPark();
        FountainPark other = new FountainPark();
        touched.build(0, 10, 10, false);
        touched.set(3, 90);
        touched.frost(0, 9);
        touched.plan(0, 9, 9 - 2);
        touched.append('x');
        touched.pass(2);
        Edges.sameToTheOldest("P1 each object for itself", new FountainPark(), other);
    }

    private static void buildRanges() {
        Edges.range("P2 place: 0 to 7", Edges.INDEX, 0, 7, Edges::empty,
                (park, place) -> park.build(place, 10, 100, false));
        Edges.range("P2 flow: 1 to 90", Edges.ARGUMENT, 1, 90, Edges::empty,
                (park, flow) -> park.build(3, flow, 100, true));
        Edges.range("P2 filter: 10 to 900", Edges.ARGUMENT, 10, 900, Edges::empty,
                (park, filter) -> park.build(3, 10, filter, false));
        Edges.refused("P2 no place is named first, then the flow", Edges.INDEX, Edges::empty,
                park -> park.build(8, 0, 100, false));
        Edges.refused("P2 no place is named first, then the filter", Edges.INDEX, Edges::empty,
                park -> park.build(-1, 10, 901, false));
        Edges.refused("P2 flow and filter", Edges.ARGUMENT, Edges::empty, park -> park.build(0, 91, 9, false));
    }

    private static void buildWhereOneStands() {
        for (int i = 0; i < 8; i++) {
            int place = i;
            Edges.refused("P2 there is a fountain already at " + place, Edges.STATE, Edges::full,
                    park -> park.build(place, 10, 100, false));
        }
        Edges.refused("P2 the flow is named ahead of the fountain", Edges.ARGUMENT, Edges::full,
                park -> park.build(3, 0, 100, false));
        Edges.refused("P2 the filter is named ahead of the fountain", Edges.ARGUMENT, Edges::full,
                park -> park.build(3, 10, 9, true));
        Edges.refused("P2 a broken one is a fountain too", Edges.STATE, Edges::busy,
                park -> park.build(0, 10, 100, true));
        Edges.refused("P2 a drained one is a fountain too", Edges.STATE, Edges::busy,
                park -> park.build(3, 10, 100, true));
    }

    private static void buildAnswers() {
        FountainPark park = new FountainPark();
        int[] places = {7, 0, 3, 4, 1, 6, 2, 5};
        for (int i = 0; i < 8; i++) {
            Check.due("P2 how many fountains there are then", i + 1, park.build(places[i], 1 + i, 10 + i, i % 2 == 0));
            Check.due("P2 what was built", (1 + i) + " " + (10 + i) + " 0 " + (1 - i % 2) + " 0 0 0 0 0 0",
                    Edges.fountainRow(park, places[i]));
        }
        park.remove(3);
        Check.due("P2 how many there are behind remove", 8, park.build(3, 90, 900, false));
        Check.due("P2 the most", "90 900 0 0 0 0 0 0 0 0", Edges.fountainRow(park, 3));
        Edges.undoable("P2 build", Edges::empty, p -> p.build(0, 90, 900, true));
        Edges.undoable("P2 build in a new park", FountainPark::new, p -> p.build(7, 1, 10, false));
    }

    private static void buildBeginsAnew() {
        FountainPark park = new FountainPark();
        park.set(0, 0);
        park.build(2, 10, 10, false);
        park.pass(2);
        park.frost(2, 2);
        park.pass(1);
        park.drain(2, true);
        Check.due("P2 before", "10 10 40 0 1 1 2 40 0 1", Edges.fountainRow(park, 2));
        park.remove(2);
        park.build(2, 11, 12, false);
        Check.due("P2 a new one at the place", "11 12 0 0 0 0 0 0 0 0", Edges.fountainRow(park, 2));
        Check.due("P2 a new one has no jobs", 0, park.count(3));
        park.set(0, 1);
        park.frost(3, 3);
        park.pass(1);
        Check.due("P2 its first burst needs all hands", "2 0 3 6", Edges.jobRow(park, 0));
        Check.due("P2 its first burst", 1, park.fountain(2, 9));
        FountainPark changed = new FountainPark();
        changed.build(2, 10, 10, true);
        changed.pass(3);
        Check.due("P2 before, with a changed filter", "10 10 20 1 0 0 0 60 1 0", Edges.fountainRow(changed, 2));
        changed.remove(2);
        changed.build(2, 10, 10, true);
        Check.due("P2 a new one has its first filter", "10 10 0 1 0 0 0 0 0 0", Edges.fountainRow(changed, 2));
        Check.due("P2 what was given so far stays", 60, changed.count(9));
    }

    private static void remove() {
        Edges.range("P3 place: 0 to 7", Edges.INDEX, 0, 7, Edges::full, FountainPark::remove);
        for (int place : new int[] {1, 2, 4, 5, 7}) {
            Edges.refused("P3 there is none at " + place, Edges.STATE, Edges::busy, park -> park.remove(place));
        }
        Edges.refused("P3 there is none in a new park", Edges.STATE, FountainPark::new, park -> park.remove(0));
        Edges.refused("P3 there is none any more", Edges.STATE, () -> {
            FountainPark park = Edges.full();
            park.remove(4);
            return park;
        }, park -> park.remove(4));
        Edges.refused("P3 there is none behind undo of build", Edges.STATE, () -> {
            FountainPark park = new FountainPark();
            park.build(4, 10, 100, false);
            park.undo();
            return park;
        }, park -> park.remove(4));
    }

    /** At 0 a burst, at 1 a filter that is used up, at 2 both, at 3 neither. */
    private static FountainPark withJobs() {
        FountainPark park = new FountainPark();
        park.set(0, 0);
        park.build(0, 5, 900, false);
        park.build(1, 10, 10, true);
        park.build(2, 10, 10, false);
        park.build(3, 5, 900, true);
        park.frost(2, 2);
        park.pass(3);
        return park;
    }

    private static FountainPark withBothJobs() {
        FountainPark park = new FountainPark();
        park.set(0, 0);
        park.build(2, 10, 10, false);
        park.frost(2, 2);
        park.pass(3);
        return park;
    }

    private static void removeAnswers() {
        FountainPark park = withJobs();
        Check.due("P3 four jobs", 4, park.count(3));
        Check.due("P3 no job", 0, park.remove(3));
        Check.due("P3 a burst alone", 1, park.remove(0));
        Check.due("P3 a filter alone", 1, park.remove(1));
        Check.due("P3 both jobs", 2, park.remove(2));
        Check.due("P3 none is left", "3 0 0 0", Check.row(0, 3, park::count));
        Check.due("P3 no job is left", -1, park.job(0, 0));
        for (int place = 0; place < 8; place++) {
            Check.due("P3 the place is empty", NO_FOUNTAIN, Edges.fountainRow(park, place));
        }
        Edges.undoable("P3 remove with two jobs", EdgesOfFountainsTest::withBothJobs, p -> p.remove(2));
        Edges.undoable("P3 remove without jobs", EdgesOfFountainsTest::two, p -> p.remove(0));
    }

    private static void removeLeavesTheOthers() {
        FountainPark park = withJobs();
        Check.due("P3 the jobs before", "0 0 2 6; 2 0 2 6; 1 1 1 2; 2 1 1 2", jobs(park));
        String beside = Edges.fountainRow(park, 1);
        park.remove(2);
        Check.due("P3 the other jobs stay", "0 0 2 6; 1 1 1 2", jobs(park));
        Check.due("P3 the other fountains stay", beside, Edges.fountainRow(park, 1));
        Check.due("P3 three are left", 3, park.count(1));
        Check.due("P3 what was given stays counted", 180, park.count(9));
    }

    private static String jobs(FountainPark park) {
        StringBuilder jobs = new StringBuilder();
        for (int i = 0; i < park.count(3); i++) {
            jobs.append(i == 0 ? "" : "; ").append(Edges.jobRow(park, i));
        }
        return jobs.toString();
    }

    private static void drain() {
        for (boolean is : new boolean[] {true, false}) {
            Edges.range("P4 place: 0 to 7", Edges.INDEX, 0, 7, Edges::full, (park, place) -> park.drain(place, is));
            for (int place : new int[] {1, 2, 4, 5, 7}) {
                Edges.refused("P4 there is none at " + place, Edges.STATE, Edges::busy, park -> park.drain(place, is));
            }
            Edges.refused("P4 there is none any more", Edges.STATE, EdgesOfFountainsTest::withoutTheFirst,
                    park -> park.drain(0, is));
        }
        FountainPark park = Edges.full();
        Check.due("P4 not drained at first", 0, park.fountain(5, 4));
        Check.due("P4 filled, to be filled", 0, park.drain(5, false));
        Check.due("P4 filled", "0 0 0", Check.row(4, 6, what -> park.fountain(5, what)));
        Check.due("P4 filled, to be drained", 0, park.drain(5, true));
        Check.due("P4 drained", "1 0 3", Check.row(4, 6, what -> park.fountain(5, what)));
        Check.due("P4 drained, to be drained", 1, park.drain(5, true));
        Check.due("P4 drained", "1 0 3", Check.row(4, 6, what -> park.fountain(5, what)));
        Check.due("P4 drained, to be filled", 1, park.drain(5, false));
        Check.due("P4 filled", "0 0 0", Check.row(4, 6, what -> park.fountain(5, what)));
        Check.due("P4 the others are filled", 8, park.count(2));
        Edges.undoable("P4 drain", EdgesOfFountainsTest::two, p -> p.drain(7, true));
        Edges.undoable("P4 drain, also if it changes nothing", EdgesOfFountainsTest::two, p -> p.drain(7, false));
    }

    private static void heat() {
        for (boolean is : new boolean[] {true, false}) {
            Edges.range("P5 place: 0 to 7", Edges.INDEX, 0, 7, Edges::full, (park, place) -> park.heat(place, is));
            for (int place : new int[] {1, 2, 4, 5, 7}) {
                Edges.refused("P5 there is none at " + place, Edges.STATE, Edges::busy, park -> park.heat(place, is));
            }
            Edges.refused("P5 there is none any more", Edges.STATE, EdgesOfFountainsTest::withoutTheFirst,
                    park -> park.heat(0, is));
        }
        FountainPark park = Edges.full();
        park.frost(0, 0);
        Check.due("P5 not heated, not to be heated", 0, park.heat(5, false));
        Check.due("P5 not heated", "0 4", park.fountain(5, 3) + " " + park.fountain(5, 6));
        Check.due("P5 not heated, to be heated", 0, park.heat(5, true));
        Check.due("P5 heated", "1 0", park.fountain(5, 3) + " " + park.fountain(5, 6));
        Check.due("P5 heated, to be heated", 1, park.heat(5, true));
        Check.due("P5 heated", "1 0", park.fountain(5, 3) + " " + park.fountain(5, 6));
        Check.due("P5 heated, not to be heated", 1, park.heat(5, false));
        Check.due("P5 not heated", "0 4", park.fountain(5, 3) + " " + park.fountain(5, 6));
        Check.due("P5 heated when it was built", 1, park.heat(0, true));
        Check.due("P5 the others are as they were", 4, park.count(2));
        Edges.undoable("P5 heat", EdgesOfFountainsTest::two, p -> p.heat(7, true));
        Edges.undoable("P5 heat no more", EdgesOfFountainsTest::two, p -> p.heat(0, false));
        Edges.undoable("P5 heat, also if it changes nothing", EdgesOfFountainsTest::two, p -> p.heat(7, false));
    }

    private static FountainPark two() {
        FountainPark park = new FountainPark();
        park.build(7, 10, 100, false);
        park.build(0, 10, 100, true);
        park.frost(1, 3);
        return park;
    }

    private static FountainPark withoutTheFirst() {
        FountainPark park = Edges.full();
        park.remove(0);
        return park;
    }
}
