/** Promises 1 to 5: a new object, build, remove, drain, heat. */
public final class FountainsTest {
    public static void main(String[] args) {
        newObject();
        build();
        buildIsUndoable();
        buildThrows();
        remove();
        nothingIsLeftAtThePlace();
        removeThrows();
        drain();
        heat();
        drainAndHeatThrow();
        Check.end();
    }

    private static void newObject() {
        FountainPark park = new FountainPark();
        Check.due("NONE", -1, FountainPark.NONE);
        Check.due("counts of a new park", "0 0 0 0 0 0 0 0 0 0 0 0", Check.row(0, 11, park::count));
        Check.due("settings of a new park", "4 0 2 5 10", Check.row(0, 4, park::setting));
        for (int place = 0; place < 8; place++) {
            int here = place;
            Check.due("a place of a new park", "-1 -1 -1 -1 -1 -1 1 -1 -1 -1",
                    Check.row(0, 9, what -> park.fountain(here, what)));
        }
        Check.due("buffer of a new park", 0, park.clearBuffer());
        Check.dueState("undo of a new park", park::undo);
    }

    private static void build() {
        FountainPark park = new FountainPark();
        Check.due("build the first", 1, park.build(0, 1, 10, true));
        Check.due("build the second", 2, park.build(7, 90, 900, false));
        Check.due("build the third", 3, park.build(3, 45, 455, true));
        Check.due("the first", "1 10 0 1 0 0 0 0 0 0", Check.row(0, 9, what -> park.fountain(0, what)));
        Check.due("the second", "90 900 0 0 0 0 0 0 0 0", Check.row(0, 9, what -> park.fountain(7, what)));
        Check.due("the third", "45 455 0 1 0 0 0 0 0 0", Check.row(0, 9, what -> park.fountain(3, what)));
        Check.due("none between", 1, park.fountain(1, 6));
    }

    private static void buildIsUndoable() {
        FountainPark park = new FountainPark();
        park.build(2, 9, 90, false);
        park.build(4, 9, 90, false);
        Check.due("undo of build", 1, park.undo());
        Check.due("fountains behind undo", 1, park.count(1));
        Check.due("the place behind undo", -1, park.fountain(4, 0));
        Check.due("build again", 2, park.build(4, 8, 80, false));
    }

    private static void buildThrows() {
        FountainPark park = new FountainPark();
        park.build(5, 9, 90, false);
        Check.dueIndex("place -1", () -> park.build(-1, 0, 0, false));
        Check.dueIndex("place 8", () -> park.build(8, 9, 90, false));
        Check.dueIndex("place at the end of int", () -> park.build(Integer.MAX_VALUE, 9, 90, false));
        Check.dueIndex("place at the beginning of int", () -> park.build(Integer.MIN_VALUE, 9, 90, false));
        Check.dueArgument("flow 0", () -> park.build(0, 0, 90, false));
        Check.dueArgument("flow 91", () -> park.build(0, 91, 90, false));
        Check.dueArgument("filter 9", () -> park.build(0, 9, 9, false));
        Check.dueArgument("filter 901", () -> park.build(0, 9, 901, false));
        Check.dueArgument("filter 9 where one stands", () -> park.build(5, 9, 9, false));
        Check.dueState("one stands", () -> park.build(5, 9, 90, true));
        Check.due("what throws saves nothing", 1, park.count(11));
        Check.due("what throws changes nothing", "9 90 0 0 0 0 0 0 0 0",
                Check.row(0, 9, what -> park.fountain(5, what)));
    }

    /** A burst and a filter that is used up: two jobs at one fountain. */
    private static FountainPark withTwoJobs() {
        FountainPark park = new FountainPark();
        park.set(0, 0);
        park.build(3, 10, 10, false);
        park.plan(0, 20, 3);
        park.pass(1);
        park.frost(1, 1);
        park.pass(1);
        return park;
    }

    private static void remove() {
        FountainPark park = withTwoJobs();
        Check.due("jobs before", 2, park.count(3));
        Check.due("remove with two jobs", 2, park.remove(3));
        Check.due("jobs behind", 0, park.count(3));
        Check.due("no job is left", -1, park.job(0, 0));
        Check.due("no fountain is left", 0, park.count(1));
        Check.due("water stays counted", 40, park.count(9));
        park.build(3, 11, 12, false);
        Check.due("a new one at the place", "11 12 0 0 0 0 0 0 0 0", Check.row(0, 9, what -> park.fountain(3, what)));
        Check.due("it has no jobs", 0, park.count(3));
        Check.due("remove without jobs", 0, park.remove(3));
        park.undo();
        park.undo();
        Check.due("undo of remove", 3, park.undo());
        Check.due("its jobs are back", 2, park.count(3));
        Check.due("the fountain is back", "10 10 40 0 0 1 2 40 0 1", Check.row(0, 9, what -> park.fountain(3, what)));
    }

    private static void nothingIsLeftAtThePlace() {
        FountainPark park = new FountainPark();
        park.build(2, 10, 10, true);
        park.pass(4);
        park.drain(2, true);
        Check.due("behind four days", "10 10 40 1 1 0 3 80 1 0", Check.row(0, 9, what -> park.fountain(2, what)));
        park.remove(2);
        park.build(2, 10, 10, false);
        Check.due("a new one", "10 10 0 0 0 0 0 0 0 0", Check.row(0, 9, what -> park.fountain(2, what)));
    }

    private static void removeThrows() {
        FountainPark park = new FountainPark();
        park.build(0, 9, 90, false);
        Check.dueIndex("remove(-1)", () -> park.remove(-1));
        Check.dueIndex("remove(8)", () -> park.remove(8));
        Check.dueState("remove where there is none", () -> park.remove(1));
        Check.due("nothing is saved", 1, park.count(11));
    }

    private static void drain() {
        FountainPark park = new FountainPark();
        park.build(6, 9, 90, false);
        Check.due("drain", 0, park.drain(6, true));
        Check.due("drained", "1 0 3", Check.row(4, 6, what -> park.fountain(6, what)));
        Check.due("drain again", 1, park.drain(6, true));
        Check.due("fill", 1, park.drain(6, false));
        Check.due("filled", "0 0 0", Check.row(4, 6, what -> park.fountain(6, what)));
        Check.due("fill again", 0, park.drain(6, false));
        Check.due("each is saved", 5, park.count(11));
        park.undo();
        park.undo();
        Check.due("undo of fill", 1, park.fountain(6, 4));
        park.frost(0, 0);
        park.pass(1);
        Check.due("a drained one does not burst", 0, park.fountain(6, 5));
        Check.due("a drained one gives nothing", 0, park.fountain(6, 7));
    }

    private static void heat() {
        FountainPark park = new FountainPark();
        park.build(6, 9, 90, false);
        park.frost(0, 1);
        Check.due("not heated in the frost", 4, park.fountain(6, 6));
        Check.due("heat", 0, park.heat(6, true));
        Check.due("heated in the frost", 0, park.fountain(6, 6));
        Check.due("is heated", 1, park.fountain(6, 3));
        Check.due("heat again", 1, park.heat(6, true));
        park.pass(1);
        Check.due("a heated one does not burst", 0, park.fountain(6, 5));
        Check.due("a heated one gives", 20, park.fountain(6, 7));
        Check.due("heat no more", 1, park.heat(6, false));
        Check.due("is not heated", 0, park.fountain(6, 3));
        Check.due("undo of heat", 5, park.undo());
        Check.due("is heated again", 1, park.fountain(6, 3));
    }

    private static void drainAndHeatThrow() {
        FountainPark park = new FountainPark();
        park.build(0, 9, 90, false);
        Check.dueIndex("drain(-1)", () -> park.drain(-1, true));
        Check.dueIndex("drain(8)", () -> park.drain(8, true));
        Check.dueState("drain where there is none", () -> park.drain(7, false));
        Check.dueIndex("heat(-1)", () -> park.heat(-1, true));
        Check.dueIndex("heat(8)", () -> park.heat(8, true));
        Check.dueState("heat where there is none", () -> park.heat(7, false));
        Check.due("nothing is saved", 1, park.count(11));
    }
}
