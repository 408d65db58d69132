/** The document's part "Terms" at its edges: fountains, jobs, a day, settings, undo, exceptions. */
public final class EdgesOfTermsTest {
    public static void main(String[] args) {
        usedUpByTheLastQuarter();
        flowOfADay();
        frostyDays();
        closedOnADay();
        handsOfAJob();
        oneJobOfAKind();
        jobsBeginAnew();
        orderOfJobs();
        orderOfFarJobs();
        burstsOfADay();
        handsOfADay();
        costOfHands();
        outingsOfADay();
        distanceIsAtMostTwo();
        nearestFirst();
        thirstIsRoundedUp();
        outingsAreOver();
        visitorsOfADay();
        usedUpClosesAtOnce();
        whatIsUndoable();
        undoRestoresAll();
        whatIsRefusedSavesNothing();
        Check.end();
    }

    private static FountainPark dry() {
        FountainPark park = new FountainPark();
        park.set(3, 0);
        park.set(2, 1);
        return park;
    }

    private static void usedUpByTheLastQuarter() {
        for (int filter : new int[] {10, 11, 22}) {
            for (int short1 = 0; short1 <= 2; short1++) {
                FountainPark park = dry();
                park.build(3, 90, filter, true);
                int quarters = 4 * filter - short1;
                park.plan(0, quarters, 3);
                String sentence = "Terms used up by 4 times its litres, " + short1 + " less";
                Check.due(sentence, 0, park.pass(1));
                Check.due(sentence, quarters, park.fountain(3, 2));
                Check.due(sentence, short1 == 0 ? 5 : 0, park.fountain(3, 6));
                Check.due(sentence, short1 == 0 ? 1 : 0, park.count(3));
                Check.due(sentence, short1 == 0 ? 0 : 1, park.count(2));
                park.set(0, 0);
                park.plan(1, 5, 3);
                Check.due(sentence + ", then 5 more", 5 - short1, park.pass(1));
                Check.due(sentence + ", reported on that day", short1 == 0 ? 0 : 1, park.job(0, 2));
                Check.due(sentence + ", it lets no more through", 4 * filter, park.fountain(3, 2));
            }
        }
    }

    private static void flowOfADay() {
        for (int flow : new int[] {1, 2, 24}) {
            FountainPark park = dry();
            park.build(3, flow, 900, true);
            park.plan(0, 4 * flow, 3);
            Check.due("Terms 4 quarters for each litre of the flow", 0, park.pass(1));
            park.plan(1, 4 * flow + 1, 3);
            Check.due("Terms a quarter more than the flow", 1, park.pass(1));
            park.plan(2, 2 * flow, 3);
            park.plan(2, 2 * flow + 1, 3);
            Check.due("Terms the flow is of the day, not of the outing", 1, park.pass(1));
            Check.due("Terms each day has its flow", 12 * flow, park.fountain(3, 7));
        }
        FountainPark park = dry();
        park.set(2, 9);
        park.build(3, 90, 900, true);
        park.plan(0, 40, 3);
        Check.due("Terms 90 litres are 360 quarters", 0, park.pass(1));
        park.plan(1, 41, 3);
        Check.due("Terms one child more", 1, park.pass(1));
    }

    private static void frostyDays() {
        FountainPark park = new FountainPark();
        park.frost(2, 3);
        park.frost(5, 5);
        park.frost(6, 6);
        int[] isFrosty = {0, 0, 1, 1, 0, 1, 1, 0, 0};
        for (int day = 0; day < isFrosty.length; day++) {
            Check.due("Terms frosty on the day " + day, isFrosty[day], park.count(10));
            park.pass(1);
        }
        FountainPark ends = new FountainPark();
        ends.frost(0, 0);
        ends.frost(999, 999);
        Check.due("Terms the day 0", 1, ends.count(10));
        Edges.goTo(ends, 998);
        Check.due("Terms the day 998", 0, ends.count(10));
        ends.pass(1);
        Check.due("Terms the day 999", 1, ends.count(10));
    }

    private static void closedOnADay() {
        FountainPark park = new FountainPark();
        park.build(0, 10, 100, false);
        park.build(1, 10, 100, true);
        park.build(2, 10, 100, true);
        park.drain(2, true);
        Check.due("Terms open without frost, but the drained one", "0 0 3", why(park));
        park.frost(0, 0);
        Check.due("Terms the frost closes what is not heated", "4 0 3", why(park));
        Check.due("Terms one is open", 1, park.count(2));
        park.pass(1);
        Check.due("Terms broken, open, drained", "2 0 3", why(park));
        Check.due("Terms the closed ones gave nothing", "0 20 0",
                park.fountain(0, 7) + " " + park.fountain(1, 7) + " " + park.fountain(2, 7));
    }

    private static String why(FountainPark park) {
        return Check.row(0, 2, place -> park.fountain(place, 6));
    }

    /** Broken on the day 0. */
    private static FountainPark withBurst() {
        FountainPark park = dry();
        park.build(3, 10, 900, false);
        park.frost(0, 0);
        park.pass(1);
        return park;
    }

    /** Used up on the day 0. */
    private static FountainPark withUsedUp() {
        FountainPark park = dry();
        park.build(3, 10, 10, true);
        park.plan(0, 40, 3);
        park.pass(1);
        return park;
    }

    private static void handsOfAJob() {
        for (int hands = 0; hands <= 20; hands++) {
            FountainPark burst = withBurst();
            burst.set(0, hands);
            burst.pass(1);
            int worked = Math.min(6, hands);
            Check.due("Terms mending takes 6 hands, with " + hands, worked, burst.count(8));
            Check.due("Terms each of them costs", 10 * worked, burst.count(7));
            Check.due("Terms it is done", hands < 6 ? 1 : 0, burst.count(3));
            Check.due("Terms it is broken", hands < 6 ? 1 : 0, burst.fountain(3, 5));
            Check.due("Terms what it still needs", hands < 6 ? 6 - hands : -1, burst.job(0, 3));
            FountainPark used = withUsedUp();
            used.set(0, hands);
            used.pass(1);
            worked = Math.min(2, hands);
            Check.due("Terms a change takes 2 hands, with " + hands, worked, used.count(8));
            Check.due("Terms each of them costs", 10 * worked, used.count(7));
            Check.due("Terms it is done", hands < 2 ? 1 : 0, used.count(3));
            Check.due("Terms it has let nothing through", hands < 2 ? 40 : 0, used.fountain(3, 2));
            Check.due("Terms filters that were changed", hands < 2 ? 0 : 1, used.fountain(3, 8));
            Check.due("Terms what it still needs", hands < 2 ? 2 - hands : -1, used.job(0, 3));
        }
    }

    private static void oneJobOfAKind() {
        FountainPark park = dry();
        park.set(0, 0);
        park.build(3, 10, 10, false);
        park.plan(0, 40, 3);
        park.frost(1, 3);
        park.frost(5, 6);
        park.pass(1);
        Check.due("Terms a filter", "3 1 0 2", Edges.jobRow(park, 0));
        park.pass(9);
        Check.due("Terms one job of each kind", 2, park.count(3));
        Check.due("Terms reported when it broke first", "3 0 1 6", Edges.jobRow(park, 0));
        Check.due("Terms reported when it was used up first", "3 1 0 2", Edges.jobRow(park, 1));
        Check.due("Terms what is broken does not break", 1, park.fountain(3, 9));
    }

    private static void jobsBeginAnew() {
        FountainPark park = withBurst();
        park.set(0, 6);
        park.pass(1);
        park.frost(2, 2);
        park.pass(1);
        Check.due("Terms a new burst needs all hands", "3 0 2 6", Edges.jobRow(park, 0));
        Check.due("Terms bursts", 2, park.fountain(3, 9));
        FountainPark used = withUsedUp();
        used.plan(1, 40, 3);
        Check.due("Terms changed ahead of the outing", 0, used.pass(1));
        Check.due("Terms used up again on the same day", "3 1 1 2", Edges.jobRow(used, 0));
        Check.due("Terms it was changed", "40 80 1",
                used.fountain(3, 2) + " " + used.fountain(3, 7) + " " + used.fountain(3, 8));
    }

    private static String queue(FountainPark park) {
        StringBuilder queue = new StringBuilder();
        for (int i = 0; i < park.count(3); i++) {
            queue.append(i == 0 ? "" : " ").append(park.job(i, 0)).append('/').append(park.job(i, 1));
        }
        return queue.toString();
    }

    /** The filters of 6 and 1 on the day 0, the bursts of 5 and 2 on the day 1, the filter of 4 too. */
    private static FountainPark withFiveJobs() {
        FountainPark park = dry();
        park.set(0, 0);
        int[] places = {6, 1, 5, 2, 4};
        for (int place : places) {
            park.build(place, 10, 10, place != 5 && place != 2);
        }
        park.drain(5, true);
        park.drain(2, true);
        park.drain(4, true);
        park.plan(0, 40, 7);
        park.plan(0, 40, 0);
        park.pass(1);
        park.drain(5, false);
        park.drain(2, false);
        park.drain(4, false);
        park.frost(1, 1);
        park.plan(1, 40, 3);
        park.pass(1);
        return park;
    }

    private static void orderOfJobs() {
        String[] want = {"2/0 5/0 1/1 6/1 4/1", "1/1 6/1 4/1 2/0 5/0", "1/1 6/1 2/0 4/1 5/0"};
        for (int order = 0; order < 3; order++) {
            for (int hands = 0; hands <= 18; hands++) {
                FountainPark park = withFiveJobs();
                park.set(1, order);
                park.set(0, hands);
                Check.due("Terms the order " + order, want[order], queue(park));
                park.pass(1);
                Check.due("Terms the crew goes by the order " + order + " with " + hands,
                        doneBy(want[order], hands), queue(park));
            }
        }
    }

    /** However far apart they were reported, and at whatever places. */
    private static void orderOfFarJobs() {
        for (int day : new int[] {1, 2, 59, 998}) {
            FountainPark park = dry();
            park.set(0, 0);
            park.build(7, 10, 10, true);
            park.plan(0, 40, 7);
            park.frost(day, day);
            Edges.goTo(park, day);
            park.build(0, 10, 900, false);
            park.pass(1);
            String[] want = {"0/0 7/1", "7/1 0/0", "7/1 0/0"};
            for (int order = 0; order < 3; order++) {
                park.set(1, order);
                Check.due("Terms the order " + order + " of the days 0 and " + day, want[order], queue(park));
            }
        }
    }

    /** What is left of a queue when its first jobs have got their hands. */
    private static String doneBy(String queue, int hands) {
        int left = hands;
        StringBuilder rest = new StringBuilder();
        for (String job : queue.split(" ")) {
            int needs = job.endsWith("0") ? 6 : 2;
            int worked = Math.min(left, needs);
            left -= worked;
            if (worked < needs) {
                rest.append(rest.length() == 0 ? "" : " ").append(job);
            }
        }
        return rest.toString();
    }

    private static void burstsOfADay() {
        for (int kind = 0; kind < 4; kind++) {
            FountainPark park = new FountainPark();
            park.build(3, 10, 900, kind % 2 == 1);
            park.drain(3, kind >= 2);
            park.pass(1);
            Check.due("Terms no burst without frost", 0, park.fountain(3, 9));
            park.frost(1, 1);
            park.pass(1);
            String sentence = "Terms the frost bursts what is neither heated nor drained";
            Check.due(sentence, kind == 0 ? 1 : 0, park.fountain(3, 5));
            Check.due(sentence, kind == 0 ? 1 : 0, park.fountain(3, 9));
            Check.due(sentence, kind == 0 ? 1 : 0, park.count(3));
        }
        FountainPark used = withUsedUp();
        used.set(0, 0);
        used.heat(3, false);
        used.frost(1, 1);
        used.pass(1);
        Check.due("Terms what is used up bursts too", "3/0 3/1", queue(used));
    }

    /** On frosty days the mending is left out, and leaves its hands to the others. */
    private static void handsOfADay() {
        for (int hands = 0; hands <= 3; hands++) {
            FountainPark park = dry();
            park.set(0, hands);
            park.build(2, 10, 900, false);
            park.build(4, 10, 10, true);
            park.plan(0, 40, 6);
            park.frost(0, 3);
            park.pass(1);
            Check.due("Terms no job is worked before it is reported", 0, park.count(8));
            park.pass(1);
            Check.due("Terms the mending waits", 6, park.job(0, 3));
            Check.due("Terms the change gets the hands", Math.min(2, hands), park.count(8));
            Check.due("Terms the change is done", hands < 2 ? 2 : 1, park.count(3));
            park.pass(2);
            Check.due("Terms the mending waits still", 6, park.job(0, 3));
            int before = park.count(8);
            park.pass(1);
            Check.due("Terms the mending goes on behind the frost", hands, park.count(8) - before);
        }
        FountainPark burst = new FountainPark();
        burst.set(0, 20);
        burst.build(2, 10, 900, false);
        burst.frost(0, 0);
        burst.pass(1);
        Check.due("Terms no mending on the day of the burst", "1 0", burst.fountain(2, 5) + " " + burst.count(8));
        burst.pass(1);
        Check.due("Terms mended, it gives on the same day", "0 20", burst.fountain(2, 5) + " " + burst.fountain(2, 7));
    }

    private static void costOfHands() {
        for (int cost : new int[] {0, 1, 50}) {
            FountainPark park = withBurst();
            park.set(4, cost);
            park.set(0, 5);
            park.pass(1);
            Check.due("Terms likewise for jobs that are not done", 5 * cost, park.count(7));
            park.set(4, 7);
            park.pass(1);
            Check.due("Terms at the cost of the day", 5 * cost + 7, park.count(7));
            park.set(4, cost);
            park.pass(1);
            Check.due("Terms no hand, no cost", 5 * cost + 7, park.count(7));
        }
    }

    private static void outingsOfADay() {
        FountainPark park = dry();
        park.build(0, 5, 900, true);
        park.build(7, 5, 900, true);
        park.plan(0, 10, 0);
        park.plan(0, 11, 0);
        Check.due("Terms more children first: 11 drink, 9 of 10 drink", 1, park.pass(1));
        park.set(2, 4);
        park.plan(1, 4, 7);
        park.plan(1, 4, 5);
        park.plan(1, 3, 7);
        Check.due("Terms of several the one that was planned first", 3 + 3, park.pass(1));
        park.set(2, 9);
        park.plan(2, 3, 0);
        park.plan(3, 2, 0);
        park.plan(2, 2, 0);
        Check.due("Terms 20 of 27 quarters, none of 18", 1 + 2, park.pass(1));
        Check.due("Terms the outing of the other day", 0, park.pass(1));
        Check.due("Terms children who were on outings", 10 + 11 + 11 + 5 + 2, park.count(6));
        Check.due("Terms children who were thirsty", 1 + 6 + 3, park.count(5));
    }

    private static void distanceIsAtMostTwo() {
        for (int place = 0; place < 8; place++) {
            for (int gate = 0; gate < 8; gate++) {
                FountainPark park = dry();
                park.build(place, 90, 900, true);
                park.plan(0, 99, gate);
                String sentence = "Terms the distance of " + place + " and " + gate + " is at most 2";
                Check.due(sentence, Math.abs(place - gate) <= 2 ? 0 : 99, park.pass(1));
            }
        }
    }

    /** Every place gives 4 quarters: which ones do, as more and more children come. */
    private static void nearestFirst() {
        int[][] walks = {{0, 1, 2}, {1, 0, 2, 3}, {2, 1, 3, 0, 4}, {3, 2, 4, 1, 5}, {4, 3, 5, 2, 6}, {5, 4, 6, 3, 7},
            {6, 5, 7, 4}, {7, 6, 5}};
        for (int gate = 0; gate < 8; gate++) {
            for (int children = 1; children <= 21; children++) {
                FountainPark park = dry();
                for (int place = 0; place < 8; place++) {
                    park.build(place, 1, 900, true);
                }
                park.plan(0, children, gate);
                int[] given = new int[8];
                int needed = children;
                for (int place : walks[gate]) {
                    given[place] = Math.min(4, needed);
                    needed -= given[place];
                }
                String sentence = "Terms by the distance, then the lower place: " + children + " at " + gate;
                Check.due(sentence, needed, park.pass(1));
                Check.due(sentence, Check.row(0, 7, place -> given[place]), Check.row(0, 7, p -> park.fountain(p, 7)));
            }
        }
    }

    private static void thirstIsRoundedUp() {
        for (int each = 1; each <= 9; each++) {
            for (int children = 1; children <= 30; children++) {
                FountainPark park = dry();
                park.set(2, each);
                park.build(3, 5, 900, true);
                park.plan(0, children, 3);
                int missing = Math.max(0, children * each - 20);
                int thirsty = 0;
                while (thirsty * each < missing) {
                    thirsty++;
                }
                Check.due("Terms rounded up: " + children + " of " + each, thirsty, park.pass(1));
                Check.due("Terms they drink what there is", children * each - missing, park.count(9));
            }
        }
    }

    private static void outingsAreOver() {
        FountainPark park = new FountainPark();
        park.plan(0, 1, 0);
        park.plan(1, 2, 1);
        park.plan(1, 3, 2);
        park.plan(999, 4, 3);
        int[] left = {3, 1, 1};
        for (int day = 0; day < 3; day++) {
            park.pass(1);
            Check.due("Terms an outing that is over is kept no longer", left[day], park.count(4));
        }
        Check.due("Terms each was on an outing once", 6, park.count(6));
        Check.due("Terms the last one is kept", "999 4 3", Edges.outingRow(park, 0));
    }

    private static void visitorsOfADay() {
        for (int litres : new int[] {0, 1, 49, 50, 51, 90}) {
            FountainPark park = new FountainPark();
            park.set(3, litres);
            park.build(0, 50, 900, true);
            park.build(1, 90, 50, true);
            park.build(2, 50, 900, true);
            park.build(3, 50, 900, false);
            park.build(4, 50, 900, true);
            park.drain(4, true);
            park.frost(0, 0);
            park.plan(0, 98, 0);
            park.pass(1);
            // 98 children drink 196 of the 200 quarters at 0
            Check.due("Terms as far as the flow of the day allows", 196 + Math.min(4 * litres, 4),
                    park.fountain(0, 7));
            Check.due("Terms as far as the filter allows", Math.min(4 * litres, 200), park.fountain(1, 7));
            Check.due("Terms as far as the flow allows", Math.min(4 * litres, 200), park.fountain(2, 7));
            Check.due("Terms only if it is open", "0 0", park.fountain(3, 7) + " " + park.fountain(4, 7));
            Check.due("Terms used up by visitors", litres >= 50 ? 5 : 0, park.fountain(1, 6));
            Check.due("Terms visitors do not thirst", 0, park.count(5));
        }
    }

    private static void usedUpClosesAtOnce() {
        FountainPark park = new FountainPark();
        park.set(0, 20);
        park.build(3, 90, 10, true);
        park.plan(0, 20, 3);
        park.plan(0, 19, 3);
        Check.due("Terms closed to the next outing", 19, park.pass(1));
        Check.due("Terms closed to visitors", 40, park.fountain(3, 7));
        Check.due("Terms the crew comes on the next day only", "0 1", park.count(8) + " " + park.count(3));
        FountainPark rest = new FountainPark();
        rest.build(3, 10, 11, true);
        rest.plan(0, 20, 3);
        rest.pass(1);
        Check.due("Terms the flow is gone, the filter is not", "40 0", rest.fountain(3, 2) + " " + rest.fountain(3, 6));
        rest.pass(1);
        Check.due("Terms 4 quarters are left for visitors", "44 5", rest.fountain(3, 2) + " " + rest.fountain(3, 6));
    }

    private static FountainPark few() {
        FountainPark park = new FountainPark();
        park.build(3, 10, 100, false);
        park.frost(1, 2);
        park.plan(0, 99, 3);
        return park;
    }

    private static void whatIsUndoable() {
        Edges.undoable("Terms build", EdgesOfTermsTest::few, park -> park.build(0, 10, 100, false));
        Edges.undoable("Terms remove", EdgesOfTermsTest::few, park -> park.remove(3));
        Edges.undoable("Terms drain", EdgesOfTermsTest::few, park -> park.drain(3, true));
        Edges.undoable("Terms drain of what is filled", EdgesOfTermsTest::few, park -> park.drain(3, false));
        Edges.undoable("Terms heat", EdgesOfTermsTest::few, park -> park.heat(3, true));
        Edges.undoable("Terms heat of what is not heated", EdgesOfTermsTest::few, park -> park.heat(3, false));
        Edges.undoable("Terms frost", EdgesOfTermsTest::few, park -> park.frost(0, 0));
        Edges.undoable("Terms thaw", EdgesOfTermsTest::few, park -> park.thaw(1));
        Edges.undoable("Terms plan", EdgesOfTermsTest::few, park -> park.plan(0, 99, 3));
        Edges.undoable("Terms callOff", EdgesOfTermsTest::few, park -> park.callOff(0));
        Edges.undoable("Terms callOff of none", EdgesOfTermsTest::few, park -> park.callOff(1));
        Edges.undoable("Terms set", EdgesOfTermsTest::few, park -> park.set(3, 0));
        Edges.undoable("Terms set to the same", EdgesOfTermsTest::few, park -> park.set(3, 5));
        Edges.undoable("Terms pass", EdgesOfTermsTest::few, park -> park.pass(60));
        FountainPark park = few();
        Check.write(park, "0:1@1");
        Check.due("Terms planAll", 2, park.planAll());
        Check.due("Terms planAll saves one state", 4, park.count(11));
        Check.due("Terms planAll is undone", 3, park.undo());
        Edges.sameToTheOldest("Terms planAll", few(), park);
    }

    /** 6 states are kept; a seventh drops the oldest one. */
    private static void undoRestoresAll() {
        for (int calls = 0; calls <= 9; calls++) {
            FountainPark park = behind(calls);
            int kept = Math.min(6, 4 + calls);
            Check.due("Terms at most 6 states", kept, park.count(11));
            for (int back = 1; back <= Math.min(6, calls); back++) {
                Check.due("Terms undo", kept - back, park.undo());
                Check.due("Terms all is restored, " + back + " of " + calls + " calls back",
                        withoutSaved(behind(calls - back)), withoutSaved(park));
            }
            for (int left = kept - Math.min(6, calls); left > 0; left--) {
                Check.due("Terms undo of what was before", left - 1, park.undo());
            }
            Check.dueState("Terms no more", park::undo);
        }
    }

    private static FountainPark behind(int calls) {
        FountainPark park = few();
        park.set(4, 3);
        for (int i = 0; i < calls; i++) {
            change(park, i);
        }
        return park;
    }

    private static void change(FountainPark park, int i) {
        switch (i) {
            case 0 -> park.pass(1);
            case 1 -> park.pass(3);
            case 2 -> park.remove(3);
            case 3 -> park.build(3, 90, 10, true);
            case 4 -> park.plan(park.count(0), 99, 4);
            case 5 -> park.pass(1);
            case 6 -> park.thaw(1);
            case 7 -> park.frost(park.count(0), 999);
            default -> park.pass(2);
        }
    }

    /** All but how many states are saved. */
    private static String withoutSaved(FountainPark park) {
        StringBuilder all = new StringBuilder(Check.row(0, 10, park::count));
        all.append("; ").append(Check.row(0, 4, park::setting)).append("; ").append(Edges.fountainRow(park, 3));
        for (int i = 0; i < 2; i++) {
            all.append("; ").append(Edges.jobRow(park, i)).append("; ").append(Edges.frostRow(park, i)).append("; ")
                    .append(Edges.outingRow(park, i));
        }
        return all.toString();
    }

    /** Each method that can throw, one after the other on one park. */
    private static void whatIsRefusedSavesNothing() {
        FountainPark park = few();
        Check.write(park, "0:1@");
        Check.dueIndex("Terms build", () -> park.build(8, 1, 10, true));
        Check.dueArgument("Terms build", () -> park.build(3, 0, 10, true));
        Check.dueState("Terms build", () -> park.build(3, 1, 10, true));
        Check.dueIndex("Terms remove", () -> park.remove(8));
        Check.dueState("Terms remove", () -> park.remove(7));
        Check.dueIndex("Terms drain", () -> park.drain(8, true));
        Check.dueState("Terms drain", () -> park.drain(7, true));
        Check.dueIndex("Terms heat", () -> park.heat(8, true));
        Check.dueState("Terms heat", () -> park.heat(7, true));
        Check.dueArgument("Terms frost", () -> park.frost(0, 1000));
        Check.dueState("Terms frost", () -> park.frost(0, 1));
        Check.dueArgument("Terms thaw", () -> park.thaw(0));
        Check.dueArgument("Terms plan", () -> park.plan(0, 0, 0));
        Check.dueArgument("Terms callOff", () -> park.callOff(1000));
        Check.dueIndex("Terms set", () -> park.set(5, 1));
        Check.dueArgument("Terms set", () -> park.set(2, 0));
        Check.dueArgument("Terms pass", () -> park.pass(0));
        Check.dueArgument("Terms append", () -> park.append(32));
        Check.dueArgument("Terms planAll", park::planAll);
        FountainPark same = few();
        Check.write(same, "0:1@");
        Edges.sameToTheOldest("Terms what throws changes nothing", same, park);
    }
}
