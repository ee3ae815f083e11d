import java.util.NoSuchElementException;

/** Promises 30 to 33: the text buffer, its commands, faults and reasons. */
public final class TextsTest {
    public static void main(String[] args) {
        promise30append();
        promise31commands();
        promise31asTheMethods();
        promise31allOrNone();
        promise31mostCommands();
        promise32faultPosition();
        promise32faultInEachForm();
        promise32faultChangesNothing();
        promise33reason();
        Check.finish();
    }

    private static void promise30append() {
        EchoCanyon canyon = new EchoCanyon();
        for (int length = 1; length <= 60; length++) {
            Check.due("length", length, canyon.append(length == 7 ? '\uFFFF' : 'b'));
        }
        Check.due("account", 60, canyon.account(11));
        Check.raises("full", canyon, IllegalStateException.class, () -> canyon.append('b'));
        Check.raisesOnly("a fault", IllegalArgumentException.class, () -> canyon.commands());
        Check.due("fault", 1, canyon.faultPosition());
        Check.due("empty again", 1, canyon.append((char) 0));
    }

    private static void promise31commands() {
        EchoCanyon canyon = new EchoCanyon();
        Check.due("number", 3, Check.run(canyon, "w5=9;p1@04;o2@5"));
        Check.due("buffer", 0, canyon.account(11));
        Check.due("wall", 9, canyon.wallOf(5, false));
        Check.due("team", 2, canyon.wallOf(5, true));
        Check.due("place", 4, canyon.playerOf(0, 1));
        Check.due("number", 1, Check.run(canyon, "s0+12"));
        Check.due("loudness", 12, canyon.soundOf(0, 1));
        Check.due("side", 1, canyon.soundOf(0, 4));
        Check.due("number", 3, Check.run(canyon, "b;c0;m0>2"));
        Check.due("points", 20, canyon.teamOf(1, 0));
        Check.due("place", 2, canyon.playerOf(0, 1));
        Check.run(canyon, "p0@15");
        Check.run(canyon, "s1-3");
        Check.due("side", 0, canyon.soundOf(0, 4));
        Check.run(canyon, "v-2");
        Check.due("wind", -2, canyon.account(4));
        Check.run(canyon, "v+0");
        Check.due("wind", 0, canyon.account(4));
        Check.run(canyon, "v+1;v-0;w13=4;w13=0");
        Check.due("wind", 0, canyon.account(4));
        Check.due("wall", 0, canyon.wallOf(13, false));
    }

    private static void promise31asTheMethods() {
        EchoCanyon byText = new EchoCanyon();
        Check.run(byText, "w8=9;o1@8;p0@4;p2@6;s0+20;b;b;b;b;v-2;b;c1;o2@8;m0>07");
        EchoCanyon byMethods = new EchoCanyon();
        byMethods.wall(8, 9);
        byMethods.own(1, 8);
        byMethods.player(0, 4);
        byMethods.player(2, 6);
        byMethods.shout(0, true, 20);
        Check.beats(byMethods, 4);
        byMethods.wind(-2);
        byMethods.beat();
        byMethods.catchEcho(1);
        byMethods.own(2, 8);
        byMethods.move(0, 7);
        Check.due("state", Check.undoableOf(byMethods), Check.undoableOf(byText));
        Check.due("one change", 1, byText.account(10));
    }

    private static void promise31allOrNone() {
        EchoCanyon canyon = new EchoCanyon();
        Check.run(canyon, "w5=9;p0@4");
        String before = Check.stateOf(canyon);
        dueRefused(canyon, "s0+9;b;w4=2", "2/1/2");
        dueRefused(canyon, "w16=1", "1/0/0");
        dueRefused(canyon, "w1=1;w99=1", "1/0/1");
        dueRefused(canyon, "w1=1;o0@1;o0@1", "6/0/2");
        dueRefused(canyon, "o3@5", "1/0/0");
        dueRefused(canyon, "o2@5;o1@5", "7/8/1");
        dueRefused(canyon, "p0@5", "4/9/0");
        dueRefused(canyon, "m1>5", "3/1/0");
        dueRefused(canyon, "m0>6;m0>10", "8/4/1");
        dueRefused(canyon, "s0+0", "1/0/0");
        dueRefused(canyon, "s0+9;s0-1", "9/2/1");
        dueRefused(canyon, "b", "11/0/0");
        dueRefused(canyon, "c9", "3/1/0");
        dueRefused(canyon, "s0-1;c0", "10/1/1");
        dueRefused(canyon, "v-3", "1/0/0");
        dueRefused(canyon, "v-0", "6/0/0");
        dueRefused(canyon, "v-1;v-1", "6/-1/1");
        Check.due("state", before, Check.stateOf(canyon));
        Check.refused("another call's index is 0", canyon, 3, 1, () -> canyon.catchEcho(1));
    }

    private static void dueRefused(EchoCanyon canyon, String text, String reason) {
        String before = Check.stateOf(canyon);
        Check.raisesOnly(text, UnsupportedOperationException.class, () -> Check.run(canyon, text));
        Check.due(text + ", reason", reason, Check.reasonOf(canyon));
        Check.due(text + ", state", before, Check.stateOf(canyon));
    }

    private static void promise31mostCommands() {
        EchoCanyon canyon = new EchoCanyon();
        Check.run(canyon, "p0@4;w3=9;w5=9;s0+20;v-2");
        Check.run(canyon, "v+2;v-2;v+2;v-2;v+2;v-2;v+2;v-2;v+2;v-2;v+2;v-2;v+2;v-2;v+2");
        Check.due("wind", 2, canyon.account(4));
        StringBuilder text = new StringBuilder("b");
        for (int beat = 1; beat < 30; beat++) {
            text.append(";b");
        }
        Check.raisesOnly("thirty beats", UnsupportedOperationException.class,
                () -> Check.run(canyon, text.toString()));
        Check.due("the ninth is refused", "11/0/8", Check.reasonOf(canyon));
    }

    private static void promise32faultPosition() {
        EchoCanyon canyon = new EchoCanyon();
        Check.due("no call yet", -1, canyon.faultPosition());
        dueFault(canyon, "", 0);
        dueFault(canyon, ";", 0);
        dueFault(canyon, " ", 0);
        dueFault(canyon, "W1=2", 0);
        dueFault(canyon, "b;", 2);
        dueFault(canyon, "b;;", 2);
        dueFault(canyon, "bb", 1);
        dueFault(canyon, "b1", 1);
        dueFault(canyon, "v+1;x", 4);
        dueFault(canyon, "v+1 ;v+2", 3);
        Check.run(canyon, "v+1");
        Check.due("right", -1, canyon.faultPosition());
        dueFault(canyon, "v", 1);
        Check.raisesOnly("refused", UnsupportedOperationException.class, () -> Check.run(canyon, "v+1"));
        Check.due("refused, but right", -1, canyon.faultPosition());
    }

    private static void dueFault(EchoCanyon canyon, String text, int position) {
        Check.raisesOnly(text, IllegalArgumentException.class, () -> Check.run(canyon, text));
        Check.due("fault in " + text, position, canyon.faultPosition());
        Check.due("buffer", 0, canyon.account(11));
    }

    private static void promise32faultInEachForm() {
        String[] forms = {"w12=3", "w1=3", "o1@2", "o1@12", "p1@2", "m1>2", "m1>12", "s1+2", "s1-20", "b", "c1", "v+1",
            "v-1"};
        EchoCanyon canyon = new EchoCanyon();
        for (String form : forms) {
            for (int length = 0; length <= form.length(); length++) {
                dueFault(canyon, form.substring(0, length) + "?", length);
                dueFault(canyon, "b;" + form.substring(0, length) + (char) 300, length + 2);
            }
        }
        dueFault(canyon, "w123=1", 3);
        dueFault(canyon, "w1=12", 4);
        dueFault(canyon, "w=1", 1);
        dueFault(canyon, "o12@1", 2);
        dueFault(canyon, "o1@123", 5);
        dueFault(canyon, "m1<1", 2);
        dueFault(canyon, "s0*", 2);
        dueFault(canyon, "s0+", 3);
        dueFault(canyon, "s0+123", 5);
        dueFault(canyon, "c12", 2);
        dueFault(canyon, "v1", 1);
        dueFault(canyon, "v+-", 2);
        dueFault(canyon, "v+12", 3);
        dueFault(canyon, "w" + (char) ('0' - 1), 1);
        dueFault(canyon, "w" + (char) ('9' + 1), 1);
    }

    private static void promise32faultChangesNothing() {
        EchoCanyon canyon = new EchoCanyon();
        Check.raisesOnly("refused", UnsupportedOperationException.class, () -> canyon.beat());
        String before = Check.undoableOf(canyon) + Check.reasonOf(canyon);
        Check.raisesOnly("fault", IllegalArgumentException.class, () -> Check.run(canyon, "w1=1;w2"));
        Check.due("state", before, Check.undoableOf(canyon) + Check.reasonOf(canyon));
        Check.due("undos", 0, canyon.account(10));
        Check.raisesOnly("fault ahead of refusal", IllegalArgumentException.class,
                () -> Check.run(canyon, "b;w2=1;"));
    }

    private static void promise33reason() {
        EchoCanyon canyon = new EchoCanyon();
        Check.raises("nothing refused", canyon, NoSuchElementException.class, () -> canyon.reason(0));
        Check.raises("what ahead", canyon, IllegalArgumentException.class, () -> canyon.reason(3));
        canyon.player(0, 4);
        Check.raises("nothing refused", canyon, NoSuchElementException.class, () -> canyon.reason(2));
        Check.raisesOnly("refused", UnsupportedOperationException.class, () -> Check.run(canyon, "m0>5;m0>9"));
        Check.due("reason", 8, canyon.reason(0));
        Check.due("detail", 4, canyon.reason(1));
        Check.due("index", 1, canyon.reason(2));
        canyon.move(0, 5);
        canyon.undo();
        canyon.save();
        canyon.restore();
        Check.due("kept", "8/4/1", Check.reasonOf(canyon));
        Check.raises("what", canyon, IllegalArgumentException.class, () -> canyon.reason(-1));
        Check.raises("what", canyon, IllegalArgumentException.class, () -> canyon.reason(3));
    }
}
