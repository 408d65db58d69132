/** Promises 12 to 16: append, clearBuffer, firstError, planAll, undo. */
public final class TextsTest {
    public static void main(String[] args) {
        append();
        clearBuffer();
        firstError();
        planAll();
        planAllKeepsTheOrder();
        planAllThrowsForTexts();
        planAllThrowsForStates();
        planAllIsUndoneAsOne();
        undo();
        undoKeepsTheBuffer();
        sixStates();
        Check.end();
    }

    private static void append() {
        FountainPark park = new FountainPark();
        Check.due("append the least", 1, park.append(33));
        Check.due("append the most", 2, park.append(126));
        Check.dueArgument("append(32)", () -> park.append(32));
        Check.dueArgument("append(127)", () -> park.append(127));
        Check.dueArgument("append(-1)", () -> park.append(-1));
        for (int i = 3; i <= 60; i++) {
            Check.due("append number " + i, i, park.append('1'));
        }
        Check.dueState("append to 60", () -> park.append('1'));
        Check.dueArgument("append no character to 60", () -> park.append(0));
        Check.due("it is not saved", 0, park.count(11));
        Check.due("the length", 60, park.clearBuffer());
    }

    private static void clearBuffer() {
        FountainPark park = new FountainPark();
        Check.due("clear none", 0, park.clearBuffer());
        Check.write(park, "12");
        Check.due("clear two", 2, park.clearBuffer());
        Check.due("clear again", 0, park.clearBuffer());
        Check.due("begin again", 1, park.append('1'));
        Check.due("it is not saved", 0, park.count(11));
    }

    private static void dueError(String text, int want) {
        FountainPark park = new FountainPark();
        Check.write(park, text);
        Check.due("firstError of \"" + text + "\"", want, park.firstError());
        Check.due("the buffer stays", text.length(), park.clearBuffer());
    }

    private static void firstError() {
        String[] begins = {"", "0", "0:", "0:1", "0:1@", "0:1@0", "0:1@0;", "0:1@0;9", "0:1@0+", "0:99@7",
            "1:1@1", "12:1@1", "999:10@7", "999:10@7+10@0;1:20@3", "100:5@5+9@9".substring(0, 10)};
        for (String text : begins) {
            dueError(text, text.length());
        }
        dueError("a", 0);
        dueError(":", 0);
        dueError(";", 0);
        dueError("00", 1);
        dueError("01:1@1", 1);
        dueError("1000:1@1", 3);
        dueError("12a", 2);
        dueError("1;", 1);
        dueError("1@", 1);
        dueError("123:", 4);
        dueError("1::", 2);
        dueError("1:0", 2);
        dueError("1:@", 2);
        dueError("1:1:", 3);
        dueError("1:1;", 3);
        dueError("1:1+", 3);
        dueError("1:100", 4);
        dueError("1:10;", 4);
        dueError("1:1@8", 4);
        dueError("1:1@@", 4);
        dueError("1:1@-", 4);
        dueError("1:1@07", 5);
        dueError("1:1@0@", 5);
        dueError("1:1@0:", 5);
        dueError("1:1@0,", 5);
        dueError("1:1@0;;", 6);
        dueError("1:1@0;+", 6);
        dueError("1:1@0++", 6);
        dueError("1:1@0+0", 6);
        dueError("1:1@0+5:", 7);
        dueError("1:1@0+5@1;01", 11);
        dueError("1:1@0~~~~", 5);
        dueError("/", 0);
        dueError("1:1@/", 4);
    }

    private static void planAll() {
        FountainPark park = new FountainPark();
        Check.write(park, "0:1@0");
        Check.due("plan one", 1, park.planAll());
        Check.due("the buffer is cleared", 0, park.clearBuffer());
        Check.write(park, "999:99@7+10@3;12:5@1+60@2;0:1@6");
        Check.due("plan five", 6, park.planAll());
        Check.due("outing 0", "0 1 0", Check.row(0, 2, what -> park.outing(0, what)));
        Check.due("outing 1", "0 1 6", Check.row(0, 2, what -> park.outing(1, what)));
        Check.due("outing 2", "12 60 2", Check.row(0, 2, what -> park.outing(2, what)));
        Check.due("outing 3", "12 5 1", Check.row(0, 2, what -> park.outing(3, what)));
        Check.due("outing 4", "999 99 7", Check.row(0, 2, what -> park.outing(4, what)));
        Check.due("outing 5", "999 10 3", Check.row(0, 2, what -> park.outing(5, what)));
    }

    private static void planAllKeepsTheOrder() {
        FountainPark park = new FountainPark();
        Check.write(park, "5:7@3+7@1;6:1@1;5:7@2");
        park.planAll();
        Check.due("planned one after the other", "3 1 2 1", Check.row(0, 3, o -> park.outing(o, 2)));
        // the longest row of groups that the buffer holds
        Check.write(park, "1:1@0+1@0+1@0+1@0+1@0+1@0+1@0+1@0+1@0+1@0+1@0+1@0");
        Check.due("as many as there is room for", 16, park.planAll());
        park.undo();
        Check.write(park, "1:1@0+1@0+1@0+1@0+1@0+1@0+1@0+1@0+1@0+1@0+1@0+1@0+1@0+1@0");
        Check.dueState("14 more than there is room for", park::planAll);
        park.callOff(5);
        park.callOff(6);
        Check.due("14 groups", 14, park.planAll());
    }

    private static void planAllThrowsForTexts() {
        String[] wrong = {"", "1", "1:", "1:1", "1:1@", "1:1@0;", "1:1@0+", "1:1@0;2", "x", "1:1@0x", "1:1@8",
            "1000:1@1", "1:0@1", "1:100@1", "01:1@1"};
        for (String text : wrong) {
            FountainPark park = new FountainPark();
            park.pass(5);
            Check.write(park, text);
            Check.dueArgument("planAll of \"" + text + "\"", park::planAll);
            Check.due("nothing is planned", 0, park.count(4));
            Check.due("nothing is saved", 1, park.count(11));
            Check.due("the buffer stays", text.length(), park.clearBuffer());
        }
    }

    private static void planAllThrowsForStates() {
        FountainPark park = new FountainPark();
        park.pass(5);
        Check.write(park, "9:1@0;5:2@2+3@3;4:2@1;6:3@0");
        Check.dueState("a day is over", park::planAll);
        Check.due("all or none", 0, park.count(4));
        Check.due("the buffer stays", 27, park.clearBuffer());
        Check.write(park, "4:1@0;9:1@0");
        Check.dueState("the first day is over", park::planAll);
        park.clearBuffer();
        Check.write(park, "9:1@0;4:1@0");
        Check.dueState("the last day is over", park::planAll);
        park.clearBuffer();
        for (int i = 0; i < 14; i++) {
            park.plan(7, 1, 0);
        }
        Check.write(park, "5:1@0+2@0+3@0");
        Check.dueState("17 outings", park::planAll);
        Check.due("all or none", 14, park.count(4));
        Check.due("the buffer stays", 13, park.clearBuffer());
        Check.write(park, "5:1@0+2@0");
        Check.due("16 outings", 16, park.planAll());
    }

    private static void planAllIsUndoneAsOne() {
        FountainPark park = new FountainPark();
        park.plan(1, 1, 1);
        Check.write(park, "1:2@2;2:3@3+4@4");
        Check.due("planAll", 4, park.planAll());
        Check.due("saved as one", 2, park.count(11));
        Check.due("undo", 1, park.undo());
        Check.due("outings behind undo", 1, park.count(4));
        Check.due("the buffer stays cleared", 0, park.clearBuffer());
    }

    private static void undo() {
        FountainPark park = new FountainPark();
        Check.dueState("nothing to undo", park::undo);
        park.build(3, 10, 10, false);
        park.set(0, 0);
        park.plan(0, 30, 3);
        park.frost(1, 2);
        park.pass(2);
        long digest = park.digest();
        park.remove(3);
        Check.due("undo of remove", 5, park.undo());
        Check.due("all is as before", digest, park.digest());
        Check.due("undo of pass", 4, park.undo());
        Check.due("the day", 0, park.count(0));
        Check.due("thirst is not counted any more", "0 0 0 0 0", Check.row(5, 9, park::count));
        Check.due("undo of frost", 3, park.undo());
        Check.due("undo of plan", 2, park.undo());
        Check.due("undo of set", 1, park.undo());
        Check.due("undo of build", 0, park.undo());
        Check.due("nothing is left", new FountainPark().digest(), park.digest());
        Check.dueState("nothing is left to undo", park::undo);
    }

    private static void undoKeepsTheBuffer() {
        FountainPark park = new FountainPark();
        Check.write(park, "12");
        park.build(0, 1, 10, false);
        Check.write(park, ":5");
        park.undo();
        Check.due("the buffer is not restored", 4, park.clearBuffer());
    }

    private static void sixStates() {
        FountainPark park = new FountainPark();
        for (int i = 1; i <= 20; i++) {
            park.set(0, i);
            Check.due("saved states", Math.min(6, i), park.count(11));
        }
        for (int i = 5; i >= 0; i--) {
            Check.due("undo", i, park.undo());
            Check.due("setting behind undo", 14 + i, park.setting(0));
        }
        Check.dueState("the oldest ones are dropped", park::undo);
        Check.due("as far back as it goes", 14, park.setting(0));
        park.set(0, 1);
        park.set(0, 2);
        Check.due("undo goes on", 1, park.undo());
        Check.due("setting", 1, park.setting(0));
    }
}
