import java.util.function.Supplier;

/** Looks at the edges of a call: what is allowed, what is refused, and that what is refused leaves all as it was. */
final class Edges {
    static final Class<IndexOutOfBoundsException> INDEX = IndexOutOfBoundsException.class;
    static final Class<IllegalArgumentException> ARGUMENT = IllegalArgumentException.class;
    static final Class<IllegalStateException> STATE = IllegalStateException.class;

    interface Call {
        long of(FountainPark park);
    }

    interface CallWith {
        long of(FountainPark park, int value);
    }

    private Edges() {
    }

    /** No fountain, but something of all else, on the day 0; three saved states. */
    static FountainPark empty() {
        FountainPark park = new FountainPark();
        park.set(0, 3);
        park.plan(2, 40, 1);
        park.frost(1, 1);
        Check.write(park, "5:1@2;");
        return park;
    }

    /** Something of everything, on the day 3, which is frosty; six saved states. */
    static FountainPark busy() {
        FountainPark park = new FountainPark();
        park.set(0, 1);
        park.build(0, 10, 10, false);
        park.build(3, 20, 300, true);
        park.build(6, 5, 900, false);
        park.frost(2, 3);
        park.frost(9, 9);
        park.plan(1, 60, 1);
        park.plan(4, 50, 5);
        park.pass(3);
        park.drain(3, true);
        Check.write(park, "5:1@2");
        return park;
    }

    /** Eight fountains, and no state saved behind the last pass but those of the fountains. */
    static FountainPark full() {
        FountainPark park = new FountainPark();
        for (int place = 0; place < 8; place++) {
            park.build(place, 10 + place, 100 + place, place % 2 == 0);
        }
        return park;
    }

    /** Nothing but the day; it has no more than 17 saved calls behind it, of which six are kept. */
    static FountainPark onDay(int day) {
        FountainPark park = new FountainPark();
        goTo(park, day);
        return park;
    }

    static void goTo(FountainPark park, int day) {
        while (park.count(0) < day) {
            park.pass(Math.min(60, day - park.count(0)));
        }
    }

    static void refused(String sentence, Class<? extends RuntimeException> want, Supplier<FountainPark> made,
            Call call) {
        FountainPark touched = made.get();
        Check.dueThrow(sentence, want, () -> call.of(touched));
        sameToTheOldest(sentence, made.get(), touched);
    }

    static void allowed(String sentence, Supplier<FountainPark> made, Call call) {
        String answer = Check.answer(() -> call.of(made.get()));
        if (answer.startsWith("throws.")) {
            Check.fail(sentence + " answered " + answer + ", due is that it is allowed");
        }
    }

    /** Each value of the range is allowed; the ones beside it, and the ends of int, are refused. */
    static void range(String sentence, Class<? extends RuntimeException> want, int least, int most,
            Supplier<FountainPark> made, CallWith call) {
        for (int value : new int[] {Integer.MIN_VALUE, -1000, least - 1, most + 1, most + 1000, Integer.MAX_VALUE}) {
            refused(sentence + ", at " + value, want, made, park -> call.of(park, value));
        }
        for (int value = least; value <= most; value++) {
            int inside = value;
            allowed(sentence + ", at " + inside, made, park -> call.of(park, inside));
        }
    }

    /** For what has a first value and no last one. */
    static void notBelowZero(String sentence, Supplier<FountainPark> made, CallWith call) {
        for (int value : new int[] {Integer.MIN_VALUE, -1000, -1}) {
            refused(sentence + ", at " + value, ARGUMENT, made, park -> call.of(park, value));
        }
        for (int value : new int[] {0, 1, 5, 6, 15, 16, 17, 1000, Integer.MAX_VALUE}) {
            allowed(sentence + ", at " + value, made, park -> call.of(park, value));
        }
    }

    /** It saves one state, and undo brings all back as it was; the park may have five saved states at most. */
    static void undoable(String sentence, Supplier<FountainPark> made, Call call) {
        FountainPark touched = made.get();
        int before = touched.count(11);
        Check.due(sentence + " begins with at most five saved states", 1, before <= 5 ? 1 : 0);
        call.of(touched);
        Check.due(sentence + " saves one state", before + 1, touched.count(11));
        Check.due(sentence + " is undone", before, touched.undo());
        sameToTheOldest(sentence + ", behind undo", made.get(), touched);
    }

    static void changesNothing(String sentence, Supplier<FountainPark> made, Call call) {
        FountainPark touched = made.get();
        call.of(touched);
        sameToTheOldest(sentence, made.get(), touched);
    }

    /** The digest holds all that can be seen, the buffer too; the saved states are seen one after the other. */
    static void sameToTheOldest(String sentence, FountainPark want, FountainPark got) {
        int saved = want.count(11);
        for (int left = saved; left >= 0; left--) {
            String where = sentence + ", with " + left + " saved states";
            Check.due(where + ": the digest", want.digest(), got.digest());
            Check.due(where + ": 60 days", Check.row(0, 3, what -> want.ifPassed(60, what)),
                    Check.row(0, 3, what -> got.ifPassed(60, what)));
            Check.due(where + ": undo", Check.answer(want::undo), Check.answer(got::undo));
        }
        Check.due(sentence + ": the buffer", want.clearBuffer(), got.clearBuffer());
    }

    static String fountainRow(FountainPark park, int place) {
        return Check.row(0, 9, what -> park.fountain(place, what));
    }

    static String jobRow(FountainPark park, int job) {
        return Check.row(0, 3, what -> park.job(job, what));
    }

    static String outingRow(FountainPark park, int outing) {
        return Check.row(0, 2, what -> park.outing(outing, what));
    }

    static String frostRow(FountainPark park, int frost) {
        return Check.row(0, 1, what -> park.frostOf(frost, what));
    }
}
