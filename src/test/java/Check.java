import java.util.NoSuchElementException;
import java.util.function.Consumer;
import java.util.function.Supplier;

/** What the tests share: calls with the answers that are due, and the whole state of a canyon as a text. */
final class Check {
    private static int wrong;

    private Check() {
    }

    static void due(String what, long due, long got) {
        if (due != got) {
            fail(what + ": answered " + got + ", due is " + due);
        }
    }

    static void due(String what, boolean due, boolean got) {
        if (due != got) {
            fail(what + ": answered " + got + ", due is " + due);
        }
    }

    static void due(String what, String due, String got) {
        if (!due.equals(got)) {
            fail(what + ": answered " + got + ", due is " + due);
        }
    }

    /** A call must throw just this class, and change nothing. */
    static void raises(String what, EchoCanyon canyon, Class<? extends RuntimeException> type, Runnable call) {
        String before = stateOf(canyon) + reasonOf(canyon);
        raisesOnly(what, type, call);
        due(what + ", state afterwards", before, stateOf(canyon) + reasonOf(canyon));
    }

    /** A call must be refused for this reason, and change nothing else. */
    static void refused(String what, EchoCanyon canyon, int reason, int detail, Runnable call) {
        String before = stateOf(canyon);
        raisesOnly(what, UnsupportedOperationException.class, call);
        due(what + ", state afterwards", before, stateOf(canyon));
        due(what + ", reason", reason + "/" + detail + "/0", reasonOf(canyon));
    }

    /** A call on one of two canyons made alike must throw just this class, and leave the two alike all through. */
    static void leavesAlike(String what, Supplier<EchoCanyon> maker, Class<? extends RuntimeException> type,
            Consumer<EchoCanyon> call) {
        EchoCanyon called = maker.get();
        raisesOnly(what, type, () -> call.accept(called));
        EchoCanyon other = maker.get();
        if (type == UnsupportedOperationException.class) {
            due(what + ", a reason is kept", false, reasonOf(called).equals("none"));
        } else {
            due(what + ", reason", reasonOf(other), reasonOf(called));
        }
        due(what + ", all of the state", wholeOf(other), wholeOf(called));
    }

    static void raisesOnly(String what, Class<? extends RuntimeException> type, Runnable call) {
        try {
            call.run();
        } catch (RuntimeException thrown) {
            due(what + ", exception", type.getName(), thrown.getClass().getName());
            return;
        }
        fail(what + ": throws nothing, due is " + type.getName());
    }

    static void fail(String what) {
        wrong++;
        StackTraceElement[] frames = Thread.currentThread().getStackTrace();
        String where = "";
        for (StackTraceElement frame : frames) {
            if (frame.getClassName().endsWith("Test")) {
                where = frame.getFileName() + ":" + frame.getLineNumber() + " ";
                break;
            }
        }
        System.out.println(where + what);
    }

    static void finish() {
        System.out.println(wrong == 0 ? "all answers are as due" : wrong + " answers are not as due");
        if (wrong != 0) {
            System.exit(1);
        }
    }

    /** Puts a text into the buffer. */
    static void type(EchoCanyon canyon, String text) {
        for (int index = 0; index < text.length(); index++) {
            canyon.append(text.charAt(index));
        }
    }

    /** Carries out the commands of a text. */
    static int run(EchoCanyon canyon, String text) {
        type(canyon, text);
        return canyon.commands();
    }

    static void beats(EchoCanyon canyon, int count) {
        for (int index = 0; index < count; index++) {
            canyon.beat();
        }
    }

    /** All that undo brings back. */
    static String undoableOf(EchoCanyon canyon) {
        StringBuilder state = new StringBuilder("walls");
        for (int place = 0; place < 16; place++) {
            state.append(' ').append(canyon.wallOf(place, false)).append('/').append(canyon.wallOf(place, true));
        }
        state.append("\nteams");
        for (int team = 0; team < 3; team++) {
            for (int what = 0; what < 6; what++) {
                state.append(' ').append(canyon.teamOf(team, what));
            }
        }
        state.append("\nplayers");
        for (int player = 0; player < canyon.account(1); player++) {
            for (int what = 0; what < 5; what++) {
                state.append(' ').append(canyon.playerOf(player, what));
            }
        }
        state.append("\nsounds");
        for (int sound = 0; sound < canyon.account(2); sound++) {
            for (int what = 0; what < 5; what++) {
                state.append(' ').append(canyon.soundOf(sound, what));
            }
        }
        state.append("\naccounts");
        for (int what = 0; what < 10; what++) {
            state.append(' ').append(canyon.account(what));
        }
        return state.append("\neven ").append(canyon.isEven()).append('\n').toString();
    }

    /** All but the reason. */
    static String stateOf(EchoCanyon canyon) {
        return undoableOf(canyon) + "undos " + canyon.account(10) + " text " + canyon.account(11)
                + " fault " + canyon.faultPosition() + " line " + lineOf(canyon) + "\n";
    }

    /** All but the reason, with the text, what undo brings back and the snapshot; the canyon is used up by that. */
    static String wholeOf(EchoCanyon canyon) {
        StringBuilder whole = new StringBuilder(stateOf(canyon));
        int changes = canyon.account(10);
        for (int left = changes; left > 0; left--) {
            canyon.undo();
            whole.append("undone ").append(undoableOf(canyon));
        }
        whole.append("snapshot ").append(answerOf(() -> canyon.restore())).append(' ').append(undoableOf(canyon));
        whole.append("commands ").append(answerOf(() -> canyon.commands())).append(' ').append(undoableOf(canyon));
        return whole.append("fault ").append(canyon.faultPosition()).toString();
    }

    private static String answerOf(Supplier<Integer> call) {
        try {
            return call.get().toString();
        } catch (RuntimeException thrown) {
            return thrown.getClass().getName();
        }
    }

    static String reasonOf(EchoCanyon canyon) {
        try {
            return canyon.reason(0) + "/" + canyon.reason(1) + "/" + canyon.reason(2);
        } catch (NoSuchElementException none) {
            return "none";
        }
    }

    static String lineOf(EchoCanyon canyon) {
        StringBuilder line = new StringBuilder();
        for (int index = 0; index < 100; index++) {
            try {
                line.append(canyon.character(index));
            } catch (IndexOutOfBoundsException end) {
                return line.toString();
            }
        }
        return line.toString();
    }
}
