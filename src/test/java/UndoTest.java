import java.util.ArrayList;
import java.util.List;

/** Promises 40, 41 and 42: undo and the snapshot. */
public final class UndoTest {
    public static void main(String[] args) {
        promise40undo();
        promise40latestEight();
        promise40eachChange();
        promise40commandsAsOne();
        promise40failedCallsDoNotCount();
        promise40whatStays();
        promise41save();
        promise42restore();
        promise42forgets();
        Check.finish();
    }

    private static void promise40undo() {
        EchoCanyon canyon = new EchoCanyon();
        Check.raises("none", canyon, IllegalStateException.class, () -> canyon.undo());
        canyon.wall(5, 9);
        canyon.player(0, 4);
        Check.due("left", 1, canyon.undo());
        Check.due("players", 0, canyon.account(1));
        Check.due("left", 0, canyon.undo());
        Check.due("wall", 0, canyon.wallOf(5, false));
        Check.raises("none left", canyon, IllegalStateException.class, () -> canyon.undo());
    }

    private static void promise40latestEight() {
        EchoCanyon canyon = new EchoCanyon();
        for (int place = 0; place < 12; place++) {
            canyon.wall(place, 1);
        }
        Check.due("kept", 8, canyon.account(10));
        for (int left = 7; left >= 5; left--) {
            Check.due("left", left, canyon.undo());
        }
        canyon.wall(15, 1);
        Check.due("kept", 6, canyon.account(10));
        for (int left = 5; left >= 0; left--) {
            Check.due("left", left, canyon.undo());
        }
        Check.due("the first four stay", 4, canyon.account(0));
        Check.raises("no ninth", canyon, IllegalStateException.class, () -> canyon.undo());
    }

    private static void promise40eachChange() {
        EchoCanyon canyon = new EchoCanyon();
        List<Runnable> changes = List.of(() -> canyon.wall(6, 9), () -> canyon.own(1, 6), () -> canyon.player(0, 4),
                () -> canyon.move(0, 5), () -> canyon.shout(0, true, 20), () -> canyon.wind(1), () -> canyon.beat(),
                () -> canyon.catchEcho(0));
        List<String> states = new ArrayList<>();
        for (Runnable change : changes) {
            states.add(Check.undoableOf(canyon));
            change.run();
        }
        for (int left = changes.size() - 1; left >= 0; left--) {
            Check.due("left", left, canyon.undo());
            Check.due("undone", states.get(left), Check.undoableOf(canyon));
        }
    }

    private static void promise40commandsAsOne() {
        EchoCanyon canyon = new EchoCanyon();
        canyon.wall(6, 9);
        String before = Check.undoableOf(canyon);
        Check.run(canyon, "o1@6;p0@5;p2@7;s0+20;s1-20;b;c0;v-1;b;m1>8");
        Check.due("one change", 2, canyon.account(10));
        Check.due("left", 1, canyon.undo());
        Check.due("undone", before, Check.undoableOf(canyon));
    }

    private static void promise40failedCallsDoNotCount() {
        EchoCanyon canyon = new EchoCanyon();
        canyon.wall(5, 9);
        Check.refused("refused", canyon, 11, 0, () -> canyon.beat());
        Check.raisesOnly("refused", UnsupportedOperationException.class, () -> Check.run(canyon, "w6=1;b"));
        Check.raisesOnly("fault", IllegalArgumentException.class, () -> Check.run(canyon, "w6=1;"));
        canyon.save();
        canyon.line();
        Check.due("kept", 1, canyon.account(10));
        Check.due("left", 0, canyon.undo());
        Check.due("wall", 0, canyon.wallOf(5, false));
    }

    private static void promise40whatStays() {
        EchoCanyon canyon = new EchoCanyon();
        canyon.line();
        canyon.wall(5, 9);
        Check.raisesOnly("fault", IllegalArgumentException.class, () -> Check.run(canyon, "b;"));
        Check.refused("refused", canyon, 11, 0, () -> canyon.beat());
        Check.type(canyon, "w6=");
        canyon.undo();
        Check.due("line", "................", Check.lineOf(canyon));
        Check.due("fault", 2, canyon.faultPosition());
        Check.due("reason", "11/0/0", Check.reasonOf(canyon));
        Check.due("commands", 1, Check.run(canyon, "2"));
        Check.due("wall", 2, canyon.wallOf(6, false));
    }

    private static void promise41save() {
        EchoCanyon canyon = new EchoCanyon();
        Check.due("players", 0, canyon.save());
        canyon.player(0, 4);
        Check.due("players", 1, canyon.save());
        canyon.player(0, 5);
        Check.due("in place of the earlier", 1, canyon.restore());
        Check.due("players", 1, canyon.account(1));
    }

    private static void promise42restore() {
        EchoCanyon canyon = new EchoCanyon();
        Check.raises("no snapshot", canyon, IllegalStateException.class, () -> canyon.restore());
        Check.run(canyon, "w6=9;o1@6;p0@5;p2@8;s0+20;s1-7;b;v+1;c0;s1+3");
        String saved = Check.undoableOf(canyon);
        Check.due("players", 2, canyon.save());
        Check.run(canyon, "w6=0;w7=1;o2@7;p2@9;m0>2;b;b;v-2;s2-3");
        canyon.line();
        Check.due("players", 2, canyon.restore());
        Check.due("restored", saved, Check.undoableOf(canyon));
        Check.due("line stays", ".......1c........", Check.lineOf(canyon));
        canyon.wall(1, 1);
        Check.due("the snapshot is kept", 2, canyon.restore());
        Check.due("restored", saved, Check.undoableOf(canyon));
    }

    private static void promise42forgets() {
        EchoCanyon canyon = new EchoCanyon();
        canyon.wall(1, 1);
        canyon.save();
        canyon.wall(2, 1);
        canyon.undo();
        canyon.undo();
        Check.due("undo lets the snapshot stay", 0, canyon.restore());
        Check.due("wall", 1, canyon.wallOf(1, false));
        canyon.wall(3, 1);
        canyon.restore();
        Check.due("forgotten", 0, canyon.account(10));
        Check.raises("none", canyon, IllegalStateException.class, () -> canyon.undo());
        canyon.wall(3, 1);
        Check.due("undone up to the restored", 0, canyon.undo());
        Check.due("walls", 1, canyon.account(0));
    }
}
