/** Promises 12 to 16 at their edges: append, clearBuffer, firstError, planAll, undo. */
public final class EdgesOfTextsTest {
    private static final String DIGITS = "0123456789";
    /** Each state that a text can be in, and all that may stand next. */
    private static final String[][] NEXT = {
        {"", DIGITS},
        {"0", ":"}, {"1", DIGITS + ":"}, {"9", DIGITS + ":"},
        {"10", DIGITS + ":"}, {"99", DIGITS + ":"}, {"50", DIGITS + ":"},
        {"100", ":"}, {"999", ":"}, {"101", ":"},
        {"0:", "123456789"}, {"7:", "123456789"}, {"42:", "123456789"}, {"999:", "123456789"},
        {"0:1", DIGITS + "@"}, {"0:9", DIGITS + "@"},
        {"0:10", "@"}, {"0:99", "@"}, {"0:42", "@"},
        {"0:1@", "01234567"}, {"0:99@", "01234567"},
        {"0:1@0", "+;"}, {"0:1@7", "+;"}, {"999:99@4", "+;"},
        {"0:1@0;", DIGITS}, {"0:1@0;0", ":"}, {"0:1@0;1", DIGITS + ":"}, {"0:1@0;99", DIGITS + ":"},
        {"0:1@0;999", ":"}, {"0:1@0;5:", "123456789"}, {"0:1@0;5:3", DIGITS + "@"}, {"0:1@0;5:30", "@"},
        {"0:1@0;5:30@", "01234567"}, {"0:1@0;5:30@7", "+;"},
        {"0:1@0+", "123456789"}, {"0:1@0+1", DIGITS + "@"}, {"0:1@0+99", "@"}, {"0:1@0+99@", "01234567"},
        {"0:1@0+99@7", "+;"}, {"0:1@0+99@7;", DIGITS}, {"0:1@0+99@7+", "123456789"}};

    public static void main(String[] args) {
        appendRange();
        appendSixty();
        clearBuffer();
        eachNextCharacter();
        firstErrorStays();
        firstErrorOfSixty();
        planAllNumbers();
        planAllWhatIsNotComplete();
        planAllDays();
        planAllSixteen();
        planAllNamesTheTextFirst();
        planAllUndo();
        undoNone();
        undoSix();
        textsAreNotUndone();
        Check.end();
    }

    private static FountainPark with(String text) {
        FountainPark park = new FountainPark();
        Check.write(park, text);
        return park;
    }

    private static FountainPark busyWith(String text) {
        FountainPark park = Edges.busy();
        park.clearBuffer();
        Check.write(park, text);
        return park;
    }

    private static String times(int times, String text) {
        return text.repeat(times);
    }

    private static void appendRange() {
        Edges.range("P12 code: 33 to 126", Edges.ARGUMENT, 33, 126, Edges::busy, FountainPark::append);
        for (int code = 33; code <= 126; code++) {
            FountainPark park = new FountainPark();
            FountainPark other = new FountainPark();
            Check.due("P12 the new length", 1, park.append(code));
            other.append(code == 126 ? 33 : code + 1);
            Check.due("P12 the character is kept", 0, park.digest() == other.digest() ? 1 : 0);
        }
    }

    private static void appendSixty() {
        FountainPark park = new FountainPark();
        for (int length = 1; length <= 60; length++) {
            Check.due("P12 the new length", length, park.append(33 + length));
        }
        Edges.refused("P12 60 characters", Edges.STATE, () -> with(times(60, "1")), p -> p.append('1'));
        Edges.refused("P12 60 characters", Edges.STATE, () -> busyWith(times(60, "~")), p -> p.append(126));
        Edges.allowed("P12 59 characters", () -> busyWith(times(59, "~")), p -> p.append(126));
        for (int code : new int[] {Integer.MIN_VALUE, 0, 32, 127, Integer.MAX_VALUE}) {
            Edges.refused("P12 the code is named ahead of the 60", Edges.ARGUMENT, () -> with(times(60, "1")),
                    p -> p.append(code));
        }
        Check.due("P12 room behind clearBuffer", "60 1", park.clearBuffer() + " " + park.append(33));
    }

    private static void clearBuffer() {
        for (int length = 0; length <= 60; length++) {
            FountainPark park = busyWith(times(length, "+"));
            Check.due("P13 the length that it had", length, park.clearBuffer());
            Check.due("P13 it is empty", 0, park.clearBuffer());
            Check.due("P13 it is empty", 0, park.firstError());
            Edges.sameToTheOldest("P13 nothing else is changed", busyWith(""), park);
        }
    }

    private static void eachNextCharacter() {
        for (String[] row : NEXT) {
            for (char code = 33; code <= 126; code++) {
                String text = row[0] + code;
                int want = row[1].indexOf(code) >= 0 ? text.length() : row[0].length();
                FountainPark park = with(text);
                Check.due("P14 firstError of " + text, want, park.firstError());
                Check.due("P14 firstError again of " + text, want, park.firstError());
            }
        }
    }

    private static void firstErrorStays() {
        Check.due("P14 an empty buffer", 0, new FountainPark().firstError());
        for (String[] row : NEXT) {
            for (String wrong : new String[] {"!", "~", "."}) {
                for (String behind : new String[] {"", "0", ":1@1", ";1:1@1", "!!!"}) {
                    FountainPark park = with(row[0] + wrong + behind);
                    Check.due("P14 the first one of " + row[0] + wrong + behind, row[0].length(), park.firstError());
                    Check.due("P14 the buffer stays", row[0].length() + 1 + behind.length(), park.clearBuffer());
                }
            }
        }
        Edges.changesNothing("P14 firstError", Edges::busy, FountainPark::firstError);
    }

    private static void firstErrorOfSixty() {
        // 15 groups and a day: 62 characters, of which the buffer holds 60
        String longest = "10:" + times(14, "1@0+") + "1@0";
        Check.due("P14 60 characters without an error", 60, with(longest.substring(0, 60)).firstError());
        Check.due("P14 60 characters, the last one is wrong", 59, with(longest.substring(0, 59) + "0").firstError());
        Check.due("P14 60 characters, the first one is wrong", 0, with(":" + longest.substring(0, 59)).firstError());
        Check.due("P14 60 characters, complete", 60, with("100:" + times(11, "10@7+") + "1").firstError());
        Check.due("P14 more outings than there is room for are no error", 57,
                fullWith("0:" + times(13, "9@7+") + "9@7").firstError());
        FountainPark late = Edges.onDay(999);
        Check.write(late, "998:1@1");
        Check.due("P14 a day that is over is no error", 7, late.firstError());
    }

    private static FountainPark fullWith(String text) {
        FountainPark park = with(text);
        for (int i = 0; i < 16; i++) {
            park.plan(5, 5, 5);
        }
        return park;
    }

    private static void planAllNumbers() {
        for (int day : new int[] {0, 1, 9, 10, 11, 99, 100, 101, 998, 999}) {
            FountainPark park = with(day + ":5@5");
            Check.due("P15 a day", 1, park.planAll());
            Check.due("P15 a day", day + " 5 5", Edges.outingRow(park, 0));
        }
        for (int children = 1; children <= 99; children++) {
            FountainPark park = with("7:" + children + "@3");
            Check.due("P15 children", 1, park.planAll());
            Check.due("P15 children", "7 " + children + " 3", Edges.outingRow(park, 0));
        }
        for (int gate = 0; gate <= 7; gate++) {
            FountainPark park = with("7:5@" + gate);
            Check.due("P15 gate", 1, park.planAll());
            Check.due("P15 gate", "7 5 " + gate, Edges.outingRow(park, 0));
        }
        FountainPark park = with("0:1@0+99@7;999:10@6+9@1;10:90@2");
        Check.due("P15 parts and groups", 5, park.planAll());
        Check.due("P15 parts and groups", "0 99 7; 0 1 0; 10 90 2; 999 10 6; 999 9 1", outings(park));
        Check.due("P15 the buffer is cleared", "0 1", park.firstError() + " " + park.append('5'));
        Check.write(park, ":5@5");
        Check.due("P15 the next text alone", 6, park.planAll());
        Check.due("P15 the next text alone", "0 99 7; 0 1 0; 5 5 5; 10 90 2; 999 10 6; 999 9 1", outings(park));
    }

    private static String outings(FountainPark park) {
        StringBuilder outings = new StringBuilder();
        for (int i = 0; i < park.count(4); i++) {
            outings.append(i == 0 ? "" : "; ").append(Edges.outingRow(park, i));
        }
        return outings.toString();
    }

    private static void planAllWhatIsNotComplete() {
        for (String[] row : NEXT) {
            boolean isComplete = row[1].equals("+;");
            if (isComplete) {
                Edges.allowed("P15 complete: " + row[0], () -> with(row[0]), FountainPark::planAll);
            } else {
                Edges.refused("P15 not complete: " + row[0], Edges.ARGUMENT, () -> with(row[0]),
                        FountainPark::planAll);
            }
        }
        String[] wrong = {"x", "5:1@1x", "5:1@8", "5:0@1", "5:00@1", "5:01@1", "5:100@1", "05:1@1", "00:1@1",
            "1000:1@1", "5:1@07", "5:1@1;", "5:1@1+", "5:1@1;;6:1@1", "5:1@1++1@1", ";5:1@1", "5:1@1+6:1@1",
            "5:1@1;1@1", "5:1@1,6:1@1", "5:-1@1", "-5:1@1", "5::1@1", "5:1@@1", "5:1@1!", times(60, "5")};
        for (String text : wrong) {
            Edges.refused("P15 not outings: " + text, Edges.ARGUMENT, () -> busyWith(text), FountainPark::planAll);
        }
        Edges.refused("P15 an empty buffer", Edges.ARGUMENT, FountainPark::new, FountainPark::planAll);
        Edges.refused("P15 a buffer that is cleared", Edges.ARGUMENT, () -> busyWith(""), FountainPark::planAll);
        Edges.refused("P15 a buffer that was planned", Edges.ARGUMENT, () -> {
            FountainPark park = with("5:1@1");
            park.planAll();
            return park;
        }, FountainPark::planAll);
    }

    private static void planAllDays() {
        // busy is on the day 3
        for (String text : new String[] {"2:1@1", "0:1@1", "2:1@1;3:1@1", "3:1@1;2:1@1", "3:1@1;2:1@1;4:1@1",
            "999:99@7;1:1@0", "0:1@1;0:1@1"}) {
            Edges.refused("P15 a day is over: " + text, Edges.STATE, () -> busyWith(text), FountainPark::planAll);
        }
        FountainPark park = busyWith("3:1@1;999:1@1");
        Check.due("P15 the present day, and the last one", 3, park.planAll());
        FountainPark last = Edges.onDay(999);
        Check.write(last, "999:5@5");
        Check.due("P15 the last day is the present one", 1, last.planAll());
        Edges.refused("P15 all but the last day are over", Edges.STATE, () -> {
            FountainPark late = Edges.onDay(999);
            Check.write(late, "999:5@5;998:5@5");
            return late;
        }, FountainPark::planAll);
    }

    private static FountainPark planned(int outings, String text) {
        FountainPark park = with(text);
        for (int i = 0; i < outings; i++) {
            park.plan(5, 50, i % 8);
        }
        return park;
    }

    private static void planAllSixteen() {
        for (int groups = 1; groups <= 14; groups++) {
            String text = "9:" + times(groups - 1, "9@7+") + "9@7";
            FountainPark park = planned(16 - groups, text);
            Check.due("P15 up to 16 with " + groups, 16, park.planAll());
            Check.due("P15 up to 16 with " + groups, "9 9 7", Edges.outingRow(park, 15));
            int before = 17 - groups;
            Edges.refused("P15 17 with " + groups, Edges.STATE, () -> planned(before, text), FountainPark::planAll);
            Edges.refused("P15 more than 16 with " + groups, Edges.STATE, () -> planned(16, text),
                    FountainPark::planAll);
            Check.due("P15 how many there are then", groups, with(text).planAll());
        }
        String sixty = "100:10@7+" + times(12, "9@7+") + "9@7";
        Check.due("P15 60 characters", 60, sixty.length());
        Check.due("P15 14 outings of 60 characters", 14, with(sixty).planAll());
        Check.due("P15 16 outings by 60 characters", 16, planned(2, sixty).planAll());
        Edges.refused("P15 17 outings by 60 characters", Edges.STATE, () -> planned(3, sixty),
                FountainPark::planAll);
        Edges.refused("P15 60 characters that are not complete", Edges.ARGUMENT,
                () -> with("10:10@7+" + times(13, "9@7+")), FountainPark::planAll);
        Edges.refused("P15 too many, and a day that is over", Edges.STATE, () -> {
            FountainPark park = planned(16, "0:1@1");
            park.pass(1);
            return park;
        }, FountainPark::planAll);
        Edges.refused("P15 16 outings, and a part", Edges.STATE, () -> planned(15, "6:1@1;7:1@1"),
                FountainPark::planAll);
    }

    private static void planAllNamesTheTextFirst() {
        for (String text : new String[] {"", "9:9@7+", "9:9@7;", "9:9@", "9:0@1", "9:9@8", "x"}) {
            Edges.refused("P15 the text is named ahead of the 16: " + text, Edges.ARGUMENT, () -> planned(16, text),
                    FountainPark::planAll);
        }
        for (String text : new String[] {"2:9@7+", "2:9@7;", "2:9@", "2:9@7;x", "2"}) {
            Edges.refused("P15 the text is named ahead of the day: " + text, Edges.ARGUMENT, () -> busyWith(text),
                    FountainPark::planAll);
        }
    }

    private static void planAllUndo() {
        String text = "3:1@1+2@2;999:3@3;4:50@0";
        FountainPark park = new FountainPark();
        park.plan(4, 50, 5);
        Check.write(park, text);
        FountainPark before = new FountainPark();
        before.plan(4, 50, 5);
        Check.due("P15 planAll", 5, park.planAll());
        Check.due("P15 one after the other", "4 50 5", Edges.outingRow(park, 2));
        Check.due("P15 as one call", 2, park.count(11));
        Check.due("P15 is undone", 1, park.undo());
        Check.due("P15 the buffer stays cleared behind undo", 0, park.firstError());
        Edges.sameToTheOldest("P15 planAll, behind undo", before, park);
    }

    private static void undoNone() {
        Edges.refused("P16 no saved state", Edges.STATE, FountainPark::new, FountainPark::undo);
        Edges.refused("P16 no saved state, but a buffer", Edges.STATE, () -> with("5:1@1"), FountainPark::undo);
        Edges.refused("P16 no saved state any more", Edges.STATE, () -> {
            FountainPark park = Edges.busy();
            for (int i = 0; i < 6; i++) {
                park.undo();
            }
            return park;
        }, FountainPark::undo);
        Edges.refused("P16 nothing is saved by what is refused", Edges.STATE, () -> {
            FountainPark park = new FountainPark();
            Check.answer(() -> park.build(0, 0, 0, false));
            Check.answer(() -> park.pass(0));
            Check.answer(park::planAll);
            return park;
        }, FountainPark::undo);
    }

    /** From one to a dozen saved calls: as many are left as were saved, but six at most. */
    private static void undoSix() {
        for (int calls = 1; calls <= 13; calls++) {
            FountainPark park = new FountainPark();
            for (int i = 1; i <= calls; i++) {
                park.plan(i, i, i % 8);
                Check.due("P16 saved states", Math.min(6, i), park.count(11));
            }
            int kept = Math.min(6, calls);
            for (int left = kept - 1; left >= 0; left--) {
                Check.due("P16 how many are left", left, park.undo());
                Check.due("P16 the latest one first", calls - kept + left, park.count(4));
                Check.due("P16 it is dropped", left, park.count(11));
            }
            Check.dueState("P16 the oldest ones are dropped", park::undo);
            Check.due("P16 as far back as it goes", calls - kept, park.count(4));
        }
        FountainPark park = new FountainPark();
        park.set(0, 1);
        park.set(0, 2);
        park.undo();
        park.set(0, 3);
        Check.due("P16 undo goes on from what it restored", "1 1", park.undo() + " " + park.setting(0));
        Check.due("P16 undo is not undone by undo", "0 4", park.undo() + " " + park.setting(0));
    }

    private static void textsAreNotUndone() {
        FountainPark park = with("12");
        Check.due("append saves nothing", 0, park.count(11));
        park.build(0, 10, 100, false);
        Check.write(park, ":5@1");
        park.undo();
        Check.due("P16 but the buffer", 1, park.planAll());
        park.undo();
        Check.write(park, "3");
        park.set(0, 0);
        park.clearBuffer();
        Check.due("clearBuffer saves nothing", 1, park.count(11));
        park.undo();
        Check.due("P16 the buffer stays cleared", 0, park.clearBuffer());
    }
}
