import java.util.ArrayDeque;
import java.util.ArrayList;
import java.util.Deque;
import java.util.List;

/** Long runs of calls by a fixed row of numbers: what is told ahead comes so, and nothing throws by itself. */
public final class RandomRunsTest {
    private static final int RUNS = 300;
    private static final int CALLS = 100;
    private static final int[] ODD = {-1, 6, 8, 16, 21, 60, Integer.MIN_VALUE, Integer.MAX_VALUE};

    private static long seed = 20261119;

    public static void main(String[] args) {
        for (int run = 0; run < RUNS; run++) {
            new RandomRunsTest().play();
        }
        Check.finish();
    }

    private final EchoCanyon canyon = new EchoCanyon();
    private final Deque<String> before = new ArrayDeque<>();

    private static int below(int bound) {
        seed = seed * 6364136223846793005L + 1442695040888963407L;
        return (int) ((seed >>> 33) % bound);
    }

    /** A number from least to most, or seldom one that is out of range. */
    private static int from(int least, int most) {
        return below(25) == 0 ? ODD[below(ODD.length)] : least + below(most - least + 1);
    }

    private void play() {
        canyon.wall(below(5), 9);
        canyon.wall(10 + below(6), 9);
        for (int player = 0; player < 4; player++) {
            isDone(() -> canyon.player(below(3), 5 + below(6)));
        }
        canyon.save();
        canyon.restore();
        for (int call = 0; call < CALLS; call++) {
            if (below(6) == 0) {
                ask();
            } else if (below(12) == 0) {
                undo();
            } else if (below(12) == 0) {
                dueTextLikeMethods();
            } else {
                change();
            }
            dueSelfConsistent();
        }
        dueAsToldAhead();
        dueReturns();
    }

    /** A change either works, and can be undone, or is refused and changes nothing. */
    private void change() {
        String state = Check.undoableOf(canyon);
        String rest = Check.stateOf(canyon);
        if (isDone(changeCall(below(14)))) {
            before.addLast(state);
            if (before.size() > 8) {
                before.removeFirst();
            }
        } else {
            Check.due("state of a refused call", rest, Check.stateOf(canyon));
        }
        Check.due("changes that can be undone", before.size(), canyon.account(10));
    }

    private Runnable changeCall(int kind) {
        int player = from(0, Math.max(0, canyon.account(1) - 1));
        int place = from(0, 15);
        int team = from(0, 2);
        int loudness = below(3) == 0 ? 1 + below(3) : from(1, 20);
        int height = from(0, 9);
        int wind = from(-2, 2);
        boolean isGreater = below(2) == 0;
        switch (kind) {
            case 0:
                return () -> canyon.wall(place, height);
            case 1:
                return () -> canyon.own(team, place);
            case 2:
                return () -> canyon.player(team, place);
            case 3:
                return () -> canyon.move(player, place);
            case 4:
            case 5:
            case 6:
            case 7:
            case 8:
            case 9:
                return () -> canyon.shout(player, isGreater, loudness);
            case 10:
            case 11:
                return () -> canyon.beat();
            case 12:
                return () -> canyon.catchEcho(catcher(player));
            default:
                return () -> canyon.wind(wind);
        }
    }

    /** A player to whom an echo came, if there is one. */
    private int catcher(int otherwise) {
        for (int player = 0; player < canyon.account(1); player++) {
            if (canyon.echoesAt(canyon.playerOf(player, 1)) != 0) {
                return player;
            }
        }
        return otherwise;
    }

    /** Whether a call works; if it throws, the class must throw that itself. */
    private static boolean isDone(Runnable call) {
        try {
            call.run();
            return true;
        } catch (RuntimeException thrown) {
            boolean isOwn = thrown.getStackTrace()[0].getClassName().startsWith("EchoCanyon");
            boolean isKnown = List.of(UnsupportedOperationException.class, IllegalArgumentException.class,
                    IllegalStateException.class, IndexOutOfBoundsException.class, ArithmeticException.class,
                    java.util.NoSuchElementException.class).contains(thrown.getClass());
            if (!isOwn || !isKnown) {
                Check.fail("the machine throws " + thrown);
            }
            return false;
        }
    }

    private void undo() {
        if (before.isEmpty()) {
            Check.raises("nothing to undo", canyon, IllegalStateException.class, () -> canyon.undo());
            return;
        }
        String due = before.removeLast();
        Check.due("left", before.size(), canyon.undo());
        Check.due("undone", due, Check.undoableOf(canyon));
    }

    /** Questions change nothing. */
    private void ask() {
        String state = Check.undoableOf(canyon);
        boolean isGreater = below(2) == 0;
        int small = from(0, 7);
        int number = from(0, 20);
        List<Runnable> calls = List.of(() -> canyon.wallOf(number, isGreater), () -> canyon.teamOf(small, number),
                () -> canyon.playerOf(small, number), () -> canyon.soundOf(small, number), () -> canyon.isEcho(small),
                () -> canyon.echoesAt(number), () -> canyon.where(small, number), () -> canyon.loudIn(small, number),
                () -> canyon.goneIn(small), () -> canyon.goneInAgain(small), () -> canyon.comes(small),
                () -> canyon.comesAgain(small), () -> canyon.returns(small, isGreater, number),
                () -> canyon.bestLoudness(small, isGreater), () -> canyon.bestTeam(number),
                () -> canyon.price(small, number), () -> canyon.nextWall(number, isGreater),
                () -> canyon.ranked(small, number), () -> canyon.loudest(small), () -> canyon.reason(small),
                () -> canyon.line(), () -> canyon.soundLine(small), () -> canyon.character(number),
                () -> canyon.meanLoudness(), () -> canyon.echoShare(), () -> canyon.account(number));
        for (Runnable call : calls) {
            isDone(call);
        }
        Check.due("state behind questions", state, Check.undoableOf(canyon));
    }

    private void dueSelfConsistent() {
        Check.due("even", true, canyon.isEven());
        for (int sound = 0; sound < canyon.account(2); sound++) {
            Check.due("gone, told in two ways", canyon.goneIn(sound), canyon.goneInAgain(sound));
        }
        for (int player = 0; player < canyon.account(1); player++) {
            Check.due("comes, told in two ways", comesOr(player, false), comesOr(player, true));
        }
    }

    private int comesOr(int player, boolean isAgain) {
        try {
            return isAgain ? canyon.comesAgain(player) : canyon.comes(player);
        } catch (java.util.NoSuchElementException never) {
            return -1;
        }
    }

    /** Commands in a text do what the methods do, up to the first that is refused; then nothing at all. */
    private void dueTextLikeMethods() {
        List<String> texts = new ArrayList<>();
        int count = 1 + below(4);
        for (int index = 0; index < count; index++) {
            texts.add(randomCommand());
        }
        canyon.save();
        before.clear();
        String due = Check.undoableOf(canyon);
        String first = due;
        int refused = -1;
        for (int index = 0; index < count && refused < 0; index++) {
            if (!isDone(methodFor(texts.get(index)))) {
                refused = index;
            }
        }
        due = refused < 0 ? Check.undoableOf(canyon) : first;
        String reason = refused < 0 ? "" : canyon.reason(0) + "/" + canyon.reason(1) + "/" + refused;
        canyon.restore();
        Check.due("restored", first, Check.undoableOf(canyon));
        String text = String.join(";", texts);
        Check.type(canyon, text);
        Check.due("carried out " + text, refused < 0, isDone(() -> canyon.commands()));
        Check.due("state by " + text, due, Check.undoableOf(canyon));
        Check.due("no fault", -1, canyon.faultPosition());
        if (refused < 0) {
            before.addLast(first);
        } else {
            Check.due("reason", reason, Check.reasonOf(canyon));
        }
    }

    private static String randomCommand() {
        String place = below(3) == 0 ? "0" + below(10) : "" + below(17);
        switch (below(8)) {
            case 0:
                return "w" + place + "=" + below(10);
            case 1:
                return "o" + below(4) + "@" + place;
            case 2:
                return "p" + below(3) + "@" + place;
            case 3:
                return "m" + below(6) + ">" + place;
            case 4:
                return "s" + below(6) + (below(2) == 0 ? "+" : "-") + below(22);
            case 5:
                return "b";
            case 6:
                return "c" + below(6);
            default:
                return "v" + (below(2) == 0 ? "+" : "-") + below(4);
        }
    }

    private Runnable methodFor(String text) {
        String numbers = text.substring(1);
        String[] parts = numbers.split("[=@>+-]");
        int last = parts[parts.length - 1].isEmpty() ? 0 : Integer.parseInt(parts[parts.length - 1]);
        int first = parts[0].isEmpty() ? 0 : Integer.parseInt(parts[0]);
        boolean isGreater = text.indexOf('+') > 0;
        switch (text.charAt(0)) {
            case 'w':
                return () -> canyon.wall(first, last);
            case 'o':
                return () -> canyon.own(first, last);
            case 'p':
                return () -> canyon.player(first, last);
            case 'm':
                return () -> canyon.move(first, last);
            case 's':
                return () -> canyon.shout(first, isGreater, last);
            case 'b':
                return () -> canyon.beat();
            case 'c':
                return () -> canyon.catchEcho(first);
            default:
                return () -> canyon.wind(isGreater ? last : -last);
        }
    }

    /** Lets beats go by until all is gone, and looks at each sound as it was told ahead. */
    private void dueAsToldAhead() {
        canyon.save();
        before.clear();
        int sounds = canyon.account(2);
        int[][] loudnesses = new int[sounds][21];
        int[][] places = new int[sounds][21];
        for (int sound = 0; sound < sounds; sound++) {
            for (int beats = 0; beats <= 20; beats++) {
                loudnesses[sound][beats] = canyon.loudIn(sound, beats);
                places[sound][beats] = loudnesses[sound][beats] > 0 ? canyon.where(sound, beats) : -1;
            }
            Check.due("loud until gone", true, loudnesses[sound][canyon.goneIn(sound) - 1] > 0);
            Check.due("gone then", 0, loudnesses[sound][canyon.goneIn(sound)]);
        }
        int[] comes = new int[canyon.account(1)];
        for (int player = 0; player < comes.length; player++) {
            comes[player] = comesOr(player, false);
        }
        for (int beats = 0; beats <= 20; beats++) {
            dueSounds(loudnesses, places, beats);
            dueEchoesCome(comes, beats);
            if (canyon.account(2) > 0) {
                canyon.beat();
            }
        }
        canyon.restore();
    }

    private void dueSounds(int[][] loudnesses, int[][] places, int beats) {
        int number = 0;
        for (int sound = 0; sound < loudnesses.length; sound++) {
            if (loudnesses[sound][beats] > 0) {
                Check.due("place", places[sound][beats], canyon.soundOf(number, 0));
                Check.due("loudness", loudnesses[sound][beats], canyon.soundOf(number, 1));
                number++;
            }
        }
        Check.due("sounds", number, canyon.account(2));
    }

    private void dueEchoesCome(int[] comes, int beats) {
        for (int player = 0; player < comes.length; player++) {
            boolean isThere = canyon.echoesAt(canyon.playerOf(player, 1)) != 0;
            if (isThere && (comes[player] < 0 || beats < comes[player])) {
                Check.fail("an echo came earlier than told");
            }
            if (beats == comes[player]) {
                Check.due("it comes then", true, isThere);
            }
        }
    }

    /** Shouts, where that is possible, and waits for the echo. */
    private void dueReturns() {
        canyon.save();
        for (int player = 0; player < canyon.account(1); player++) {
            for (int side = 0; side < 2; side++) {
                int best = 0;
                int most = 0;
                for (int loudness = 1; loudness <= 20; loudness++) {
                    int told = canyon.returns(player, side == 1, loudness);
                    Check.due("returns", played(player, side == 1, loudness, told), told);
                    if (told > most) {
                        best = loudness;
                        most = told;
                    }
                }
                dueBest(player, side == 1, best);
            }
        }
    }

    private void dueBest(int player, boolean isGreater, int best) {
        if (best > 0) {
            Check.due("best", best, canyon.bestLoudness(player, isGreater));
        } else {
            Check.raises("no best", canyon, java.util.NoSuchElementException.class,
                    () -> canyon.bestLoudness(player, isGreater));
        }
    }

    private int played(int player, boolean isGreater, int loudness, int otherwise) {
        if (canyon.playerOf(player, 2) > 0 || canyon.account(2) == 8) {
            return otherwise;
        }
        int place = canyon.playerOf(player, 1);
        int sound = canyon.shout(player, isGreater, loudness);
        int returned = 0;
        int left = canyon.goneIn(sound);
        for (int beats = 0; beats < left && returned == 0; beats++) {
            int last = canyon.account(2) - 1;
            if (canyon.isEcho(last) && canyon.soundOf(last, 0) == place) {
                returned = canyon.soundOf(last, 1);
            }
            canyon.beat();
        }
        canyon.restore();
        return returned;
    }
}
