/** Promises 6 to 11 at their edges: frost, thaw, plan, callOff, set, pass. */
public final class EdgesOfDaysTest {
    public static void main(String[] args) {
        frostRanges();
        frostDaysInCommon();
        frostSix();
        frostUndo();
        thawOfWhatBegins();
        thawAnswers();
        planRanges();
        planSixteen();
        planUndo();
        callOffRange();
        callOffAnswers();
        setRanges();
        setAnswers();
        passRange();
        passToTheLastDay();
        passAnswers();
        passUndo();
        Check.end();
    }

    private static FountainPark onDay5() {
        return Edges.onDay(5);
    }

    private static FountainPark onDay999() {
        return Edges.onDay(999);
    }

    private static void frostRanges() {
        Edges.range("P6 first: the day 0 to 999", Edges.ARGUMENT, 0, 999, FountainPark::new,
                (park, first) -> park.frost(first, Math.max(0, Math.min(999, first))));
        Edges.range("P6 first: the present day to 999", Edges.ARGUMENT, 5, 999, EdgesOfDaysTest::onDay5,
                (park, first) -> park.frost(first, 999));
        Edges.range("P6 first on the last day", Edges.ARGUMENT, 999, 999, EdgesOfDaysTest::onDay999,
                (park, first) -> park.frost(first, 999));
        Edges.range("P6 last: first to 999", Edges.ARGUMENT, 5, 999, EdgesOfDaysTest::onDay5,
                (park, last) -> park.frost(5, last));
        Edges.range("P6 last: first to 999", Edges.ARGUMENT, 700, 999, EdgesOfDaysTest::onDay5,
                (park, last) -> park.frost(700, last));
        Edges.range("P6 last: first to 999", Edges.ARGUMENT, 999, 999, FountainPark::new,
                (park, last) -> park.frost(999, last));
        Edges.refused("P6 first and last above 999", Edges.ARGUMENT, Edges::busy, park -> park.frost(1000, 1000));
        Edges.refused("P6 first and last over", Edges.ARGUMENT, Edges::busy, park -> park.frost(1, 1));
        Edges.refused("P6 first is over, last is not", Edges.ARGUMENT, Edges::busy, park -> park.frost(1, 5));
        Edges.refused("P6 the ends of int", Edges.ARGUMENT, Edges::busy,
                park -> park.frost(Integer.MIN_VALUE, Integer.MAX_VALUE));
    }

    private static FountainPark withTwoFrosts() {
        FountainPark park = new FountainPark();
        park.frost(9, 11);
        park.frost(4, 4);
        park.pass(2);
        return park;
    }

    private static void frostDaysInCommon() {
        for (int first = 2; first <= 14; first++) {
            for (int last = first; last <= 14; last++) {
                int from = first;
                int to = last;
                String sentence = "P6 a day in common: " + first + " to " + last;
                boolean isTaken = first <= 4 && last >= 4 || first <= 11 && last >= 9;
                if (isTaken) {
                    Edges.refused(sentence, Edges.STATE, EdgesOfDaysTest::withTwoFrosts, park -> park.frost(from, to));
                } else {
                    Check.due(sentence, 3, withTwoFrosts().frost(from, to));
                }
            }
        }
        Edges.refused("P6 a frost that has begun has its days still", Edges.STATE, () -> inAFrost(7),
                p -> p.frost(7, 7));
        Check.due("P6 the day behind it is free", 2, inAFrost(7).frost(10, 10));
        Edges.refused("P6 a range is named ahead of a day in common", Edges.ARGUMENT, () -> inAFrost(7),
                p -> p.frost(6, 9));
        Edges.refused("P6 a range is named ahead of a day in common", Edges.ARGUMENT, () -> inAFrost(7),
                p -> p.frost(8, 7));
        Edges.refused("P6 a range is named ahead of a day in common", Edges.ARGUMENT, () -> inAFrost(7),
                p -> p.frost(9, 1000));
        Edges.refused("P6 all days", Edges.STATE, EdgesOfDaysTest::withTwoFrosts, p -> p.frost(2, 999));
    }

    private static FountainPark inAFrost(int day) {
        FountainPark park = new FountainPark();
        park.frost(5, 9);
        Edges.goTo(park, day);
        return park;
    }

    private static FountainPark withSixFrosts() {
        FountainPark park = new FountainPark();
        for (int first : new int[] {40, 0, 20, 50, 30, 10}) {
            park.frost(first, first + 3);
        }
        park.pass(15);
        return park;
    }

    private static void frostSix() {
        FountainPark park = new FountainPark();
        int[] firsts = {40, 0, 20, 50, 30, 10};
        for (int i = 0; i < 6; i++) {
            Check.due("P6 how many there are then", i + 1, park.frost(firsts[i], firsts[i] + 3));
        }
        park.pass(15);
        Check.due("P6 by their first days, those that are over too", "0 10 20 30 40 50 -1",
                Check.row(0, 6, frost -> park.frostOf(frost, 0)));
        Edges.refused("P6 there are 6, though two are over", Edges.STATE, EdgesOfDaysTest::withSixFrosts,
                p -> p.frost(60, 60));
        Edges.refused("P6 there are 6, and a day in common", Edges.STATE, EdgesOfDaysTest::withSixFrosts,
                p -> p.frost(20, 20));
        Edges.refused("P6 a range is named ahead of the 6", Edges.ARGUMENT, EdgesOfDaysTest::withSixFrosts,
                p -> p.frost(14, 60));
        Edges.refused("P6 a range is named ahead of the 6", Edges.ARGUMENT, EdgesOfDaysTest::withSixFrosts,
                p -> p.frost(60, 59));
        Edges.refused("P6 a range is named ahead of the 6", Edges.ARGUMENT, EdgesOfDaysTest::withSixFrosts,
                p -> p.frost(60, 1000));
        park.thaw(0);
        Check.due("P6 there is room behind thaw", 6, park.frost(60, 60));
        Check.due("P6 the new one is the last", "60 60", Edges.frostRow(park, 5));
    }

    private static void frostUndo() {
        Edges.undoable("P6 frost", FountainPark::new, park -> park.frost(0, 999));
        Edges.undoable("P6 frost ahead of others", EdgesOfDaysTest::withTwoFrosts, park -> park.frost(2, 3));
        Edges.undoable("P6 frost between others", EdgesOfDaysTest::withTwoFrosts, park -> park.frost(5, 8));
        Edges.undoable("P6 frost behind others", EdgesOfDaysTest::withTwoFrosts, park -> park.frost(12, 999));
        FountainPark park = new FountainPark();
        Check.due("P6 not frosty", 0, park.count(10));
        park.frost(0, 0);
        Check.due("P6 the present day is frosty at once", 1, park.count(10));
    }

    private static FountainPark withThreeFrosts() {
        FountainPark park = new FountainPark();
        park.frost(4, 10);
        park.frost(0, 1);
        park.frost(999, 999);
        park.pass(5);
        return park;
    }

    private static void thawOfWhatBegins() {
        for (int day = -2; day <= 1001; day++) {
            int first = day;
            if (day == 0 || day == 4 || day == 999) {
                Edges.undoable("P7 a frost begins on " + day, EdgesOfDaysTest::withThreeFrosts, p -> p.thaw(first));
            } else {
                Edges.refused("P7 no frost begins on " + day, Edges.ARGUMENT, EdgesOfDaysTest::withThreeFrosts,
                        park -> park.thaw(first));
            }
        }
        for (int day : new int[] {Integer.MIN_VALUE, -1, 0, 999, 1000, Integer.MAX_VALUE}) {
            Edges.refused("P7 no frost at all", Edges.ARGUMENT, FountainPark::new, park -> park.thaw(day));
        }
        Edges.refused("P7 no frost any more", Edges.ARGUMENT, () -> {
            FountainPark park = withThreeFrosts();
            park.thaw(999);
            return park;
        }, park -> park.thaw(999));
    }

    private static void thawAnswers() {
        FountainPark park = withThreeFrosts();
        Check.due("P7 frosty before", 1, park.count(10));
        Check.due("P7 how many days it had, also those that are over", 7, park.thaw(4));
        Check.due("P7 frosty no more", 0, park.count(10));
        Check.due("P7 two are left", "0 1; 999 999; -1 -1",
                Edges.frostRow(park, 0) + "; " + Edges.frostRow(park, 1) + "; " + Edges.frostRow(park, 2));
        Check.due("P7 one that is over", 2, park.thaw(0));
        Check.due("P7 one day", 1, park.thaw(999));
        Check.due("P7 none is left", "-1 -1", Edges.frostRow(park, 0));
        FountainPark all = new FountainPark();
        all.frost(0, 999);
        Check.due("P7 all days", 1000, all.thaw(0));
        FountainPark six = withSixFrosts();
        for (int first : new int[] {50, 0, 30, 10, 40, 20}) {
            Check.due("P7 one of 6", 4, six.thaw(first));
        }
        Check.due("P7 the last of 6 is gone", "-1 -1", Edges.frostRow(six, 0));
    }

    private static void planRanges() {
        Edges.range("P8 day: the day 0 to 999", Edges.ARGUMENT, 0, 999, FountainPark::new,
                (park, day) -> park.plan(day, 50, 3));
        Edges.range("P8 day: the present day to 999", Edges.ARGUMENT, 5, 999, EdgesOfDaysTest::onDay5,
                (park, day) -> park.plan(day, 50, 3));
        Edges.range("P8 day on the last day", Edges.ARGUMENT, 999, 999, EdgesOfDaysTest::onDay999,
                (park, day) -> park.plan(day, 50, 3));
        Edges.range("P8 children: 1 to 99", Edges.ARGUMENT, 1, 99, Edges::busy,
                (park, children) -> park.plan(5, children, 3));
        Edges.range("P8 gate: 0 to 7", Edges.ARGUMENT, 0, 7, Edges::busy, (park, gate) -> park.plan(5, 50, gate));
    }

    private static FountainPark withOutings(int outings) {
        FountainPark park = new FountainPark();
        for (int i = 0; i < outings; i++) {
            park.plan(i % 3, 99 - i, i % 8);
        }
        return park;
    }

    private static FountainPark withSixteen() {
        return withOutings(16);
    }

    private static void planSixteen() {
        FountainPark park = new FountainPark();
        for (int i = 1; i <= 16; i++) {
            Check.due("P8 how many there are then", i, park.plan(i % 3, 99, 7));
        }
        Edges.refused("P8 there are 16", Edges.STATE, EdgesOfDaysTest::withSixteen, p -> p.plan(5, 5, 5));
        Edges.refused("P8 a day is named ahead of the 16", Edges.ARGUMENT, EdgesOfDaysTest::withSixteen,
                p -> p.plan(1000, 5, 5));
        Edges.refused("P8 the children are named ahead of the 16", Edges.ARGUMENT, EdgesOfDaysTest::withSixteen,
                p -> p.plan(5, 100, 5));
        Edges.refused("P8 the gate is named ahead of the 16", Edges.ARGUMENT, EdgesOfDaysTest::withSixteen,
                p -> p.plan(5, 5, 8));
        park.pass(1);
        Check.due("P8 those that are over leave room", 12, park.plan(1, 1, 0));
        FountainPark off = withSixteen();
        off.callOff(2);
        Check.due("P8 those that are called off leave room", 12, off.plan(2, 1, 0));
        FountainPark undone = withSixteen();
        undone.undo();
        Check.due("P8 those that are undone leave room", 16, undone.plan(2, 1, 0));
    }

    private static void planUndo() {
        Edges.undoable("P8 plan", FountainPark::new, park -> park.plan(0, 1, 0));
        Edges.undoable("P8 plan ahead of others", () -> withOutings(5), park -> park.plan(0, 99, 0));
        Edges.undoable("P8 plan between others", () -> withOutings(5), park -> park.plan(1, 50, 7));
        Edges.undoable("P8 plan behind others", () -> withOutings(5), park -> park.plan(999, 1, 7));
    }

    private static void callOffRange() {
        Edges.range("P9 day: 0 to 999", Edges.ARGUMENT, 0, 999, Edges::busy, FountainPark::callOff);
        Edges.range("P9 day: 0 to 999, on the last day", Edges.ARGUMENT, 0, 999, EdgesOfDaysTest::onDay999,
                FountainPark::callOff);
        Edges.undoable("P9 callOff", () -> withOutings(5), park -> park.callOff(1));
        Edges.undoable("P9 callOff, also if it changes nothing", () -> withOutings(5), park -> park.callOff(3));
        Edges.undoable("P9 callOff of a new park", FountainPark::new, park -> park.callOff(0));
    }

    private static void callOffAnswers() {
        Check.due("P9 none at all", 0, new FountainPark().callOff(0));
        FountainPark sixteen = new FountainPark();
        for (int i = 0; i < 16; i++) {
            sixteen.plan(999, 99, i % 8);
        }
        Check.due("P9 none of this day", 0, sixteen.callOff(998));
        Check.due("P9 16 outings", 16 * 99, sixteen.callOff(999));
        Check.due("P9 none is left", "0 -1", sixteen.count(4) + " " + sixteen.outing(0, 0));
        Check.due("P9 none any more", 0, sixteen.callOff(999));
        FountainPark three = new FountainPark();
        three.plan(0, 1, 0);
        three.plan(1, 2, 1);
        three.plan(2, 4, 2);
        Check.due("P9 the first day", 1, three.callOff(0));
        Check.due("P9 the last one", 4, three.callOff(2));
        Check.due("P9 the others stay", "1 2 1", Edges.outingRow(three, 0));
        three.pass(1);
        Check.due("P9 who was called off is no guest", "1 1 0 0",
                three.count(0) + " " + three.count(4) + " " + three.count(5) + " " + three.count(6));
        Check.due("P9 a day that is over", 0, three.callOff(0));
        Check.due("P9 the present day", 2, three.callOff(1));
    }

    private static void setRanges() {
        Edges.range("P10 setting: 0 to 4", Edges.INDEX, 0, 4, Edges::busy, (park, setting) -> park.set(setting, 1));
        Edges.range("P10 the hands of the crew: 0 to 20", Edges.ARGUMENT, 0, 20, Edges::busy,
                (park, value) -> park.set(0, value));
        Edges.range("P10 the order of jobs: 0 to 2", Edges.ARGUMENT, 0, 2, Edges::busy,
                (park, value) -> park.set(1, value));
        Edges.range("P10 quarters for a child: 1 to 9", Edges.ARGUMENT, 1, 9, Edges::busy,
                (park, value) -> park.set(2, value));
        Edges.range("P10 litres for visitors: 0 to 90", Edges.ARGUMENT, 0, 90, Edges::busy,
                (park, value) -> park.set(3, value));
        Edges.range("P10 the cost of a hand: 0 to 50", Edges.ARGUMENT, 0, 50, Edges::busy,
                (park, value) -> park.set(4, value));
        for (int value : new int[] {Integer.MIN_VALUE, -1, 91, Integer.MAX_VALUE}) {
            Edges.refused("P10 no setting is named first", Edges.INDEX, Edges::busy, park -> park.set(5, value));
            Edges.refused("P10 no setting is named first", Edges.INDEX, Edges::busy, park -> park.set(-1, value));
        }
    }

    private static void setAnswers() {
        FountainPark park = new FountainPark();
        int[] first = {4, 0, 2, 5, 10};
        int[] least = {0, 0, 1, 0, 0};
        int[] most = {20, 2, 9, 90, 50};
        for (int i = 0; i < 5; i++) {
            int setting = i;
            Check.due("P10 the previous value, at first", first[i], park.set(i, most[i]));
            Check.due("P10 the value", most[i], park.setting(i));
            Check.due("P10 the previous value", most[i], park.set(i, most[i]));
            Check.due("P10 the previous value", most[i], park.set(i, least[i]));
            Check.due("P10 the value", least[i], park.setting(i));
            Edges.undoable("P10 set", FountainPark::new, p -> p.set(setting, most[setting]));
            Edges.undoable("P10 set, also if it changes nothing", FountainPark::new,
                    p -> p.set(setting, first[setting]));
        }
        Check.due("P10 each for itself", "0 0 1 0 0", Check.row(0, 4, park::setting));
    }

    private static void passRange() {
        Edges.range("P11 days: 1 to 60", Edges.ARGUMENT, 1, 60, Edges::busy, FountainPark::pass);
        Edges.range("P11 days: 1 to 60, on the day 939", Edges.ARGUMENT, 1, 60, () -> Edges.onDay(939),
                FountainPark::pass);
        for (int day = 939; day <= 999; day++) {
            int present = day;
            for (int days : new int[] {Integer.MIN_VALUE, -1, 0, 61, 1000, Integer.MAX_VALUE}) {
                Edges.refused("P11 the days are named ahead of the day, on " + day, Edges.ARGUMENT,
                        () -> Edges.onDay(present), park -> park.pass(days));
            }
        }
    }

    private static void passToTheLastDay() {
        for (int day = 939; day <= 999; day++) {
            int present = day;
            for (int d = 1; d <= 60; d++) {
                int days = d;
                String sentence = "P11 " + days + " days on the day " + day;
                if (day + days <= 999) {
                    FountainPark park = Edges.onDay(day);
                    Check.due(sentence, 0, park.pass(days));
                    Check.due(sentence, day + days, park.count(0));
                } else {
                    FountainPark park = Edges.onDay(day);
                    Check.dueState(sentence + ": it would be above 999", () -> park.pass(days));
                    Check.due(sentence + ": the day stays", present, park.count(0));
                }
            }
        }
        Edges.refused("P11 the day would be above 999", Edges.STATE, EdgesOfDaysTest::busyOnDay998, p -> p.pass(2));
        Edges.refused("P11 the day would be above 999", Edges.STATE, EdgesOfDaysTest::busyOnDay998, p -> p.pass(60));
        Edges.refused("P11 the last day cannot pass", Edges.STATE, () -> {
            FountainPark park = busyOnDay998();
            park.pass(1);
            return park;
        }, park -> park.pass(1));
    }

    private static FountainPark busyOnDay998() {
        FountainPark park = Edges.onDay(997);
        park.build(3, 10, 10, false);
        park.plan(997, 30, 3);
        park.plan(998, 31, 3);
        park.plan(999, 32, 3);
        park.frost(998, 999);
        park.pass(1);
        return park;
    }

    private static void passAnswers() {
        FountainPark park = new FountainPark();
        Check.due("P11 none is thirsty", 0, park.pass(60));
        park.plan(60, 10, 0);
        park.plan(61, 20, 0);
        park.plan(62, 40, 0);
        park.plan(122, 99, 0);
        park.plan(123, 5, 0);
        Check.due("P11 a day", 10, park.pass(1));
        Check.due("P11 only those in them: two days", 60, park.pass(2));
        Check.due("P11 only those in them: none", 0, park.pass(59));
        Check.due("P11 only those in them: the day that is the present one", 99, park.pass(1));
        Check.due("P11 all of them are counted", "123 0 0 0 1 169 169 0 0 0 0 6", Check.row(0, 11, park::count));
        FountainPark all = new FountainPark();
        for (int i = 0; i < 16; i++) {
            all.plan(59 - i % 2, 99, 4);
        }
        Check.due("P11 16 outings", 16 * 99, all.pass(60));
        Check.due("P11 the 16 are over", 0, all.count(4));
    }

    private static void passUndo() {
        for (int days : new int[] {1, 2, 3, 59, 60}) {
            Edges.undoable("P11 " + days + " days, as one call", () -> {
                FountainPark park = new FountainPark();
                park.build(3, 10, 10, false);
                park.plan(0, 30, 3);
                park.plan(2, 31, 3);
                park.frost(1, 1);
                return park;
            }, park -> park.pass(days));
        }
        Edges.undoable("P11 pass, if nothing happens", FountainPark::new, park -> park.pass(1));
    }
}
