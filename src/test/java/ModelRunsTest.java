import java.util.Map;
import java.util.TreeMap;

/**
 * Runs of at most 512 calls, each answered by the class and by the model alike: numbers inside and at both sides of each
 * bound, in canyons that are empty, ordinary and full.
 */
public final class ModelRunsTest {
    private static final int RUNS = 1500;
    private static final int CALLS = 512;
    private static final String[] CHANGES = {"wall", "own", "player", "move", "shout", "shout", "shout", "shout", "beat",
        "beat", "catchEcho", "catchEcho", "wind", "text", "text", "undo", "save", "restore"};
    private static final String[] ANSWERS = {"wallOf", "teamOf", "playerOf", "soundOf", "isEcho", "echoesAt", "where",
        "loudIn", "goneIn", "goneInAgain", "comes", "comesAgain", "returns", "bestLoudness", "bestTeam", "price",
        "nextWall", "ranked", "loudest", "isEven", "append", "commands", "faultPosition", "reason", "line", "soundLine",
        "character", "meanLoudness", "echoShare", "account"};
    private static final int[] ODD = {-1, -2, 16, 17, 20, 21, 60, Integer.MIN_VALUE, Integer.MAX_VALUE};
    /** How often each call was made, and how often it threw. */
    private static final Map<String, int[]> MADE = new TreeMap<>();

    private static long seed = 7;

    private final EchoCanyon canyon = new EchoCanyon();
    private final Model model = new Model();
    private final StringBuilder run = new StringBuilder();
    private int calls;
    private boolean isRight = true;

    public static void main(String[] args) {
        for (int number = 0; number < RUNS; number++) {
            ModelRunsTest test = new ModelRunsTest();
            test.play();
            if (!test.isRight) {
                break;
            }
        }
        eachCallWasMade();
        Check.finish();
    }

    private static void eachCallWasMade() {
        Check.due("calls of the face", 41, MADE.size());
        for (Map.Entry<String, int[]> made : MADE.entrySet()) {
            int answered = made.getValue()[0] - made.getValue()[1];
            Check.due(made.getKey() + " was answered often", true, answered >= 1000);
        }
    }

    private static int below(int bound) {
        seed = seed * 6364136223846793005L + 1442695040888963407L;
        return (int) ((seed >>> 33) % bound);
    }

    private void play() {
        // Some canyons are almost always asked with right numbers, so that much happens; some often with wrong ones.
        int odd = below(3) == 0 ? 6 : 40;
        int walls = below(5);
        int players = below(8) == 0 ? 0 : 1 + below(6);
        for (int wall = 0; wall < walls; wall++) {
            call("wall", below(16), 9 - below(1 + below(9)), 0);
        }
        for (int player = 0; player < players; player++) {
            call("player", below(3), below(16), 0);
        }
        while (calls < CALLS && isRight) {
            if (below(3) == 0) {
                change(CHANGES[below(CHANGES.length)], odd);
            } else {
                answer(ANSWERS[below(ANSWERS.length)], odd);
            }
        }
    }

    private static int from(int least, int most, int odd) {
        return below(odd) == 0 ? below(3) == 0 ? ODD[below(ODD.length)] : least - 1 + below(most - least + 3)
                : least + below(most - least + 1);
    }

    private void change(String name, int odd) {
        switch (name) {
            case "wall":
                call(name, from(0, 15, odd), from(0, 9, odd), 0);
                break;
            case "own":
            case "player":
                call(name, from(0, 2, odd), from(0, 15, odd), 0);
                break;
            case "move":
                int player = player(odd);
                call(name, player, told("playerOf", player, 1, 8) - 4 + below(9), 0);
                break;
            case "shout":
                call(name, player(odd), below(2), below(3) == 0 ? 1 + below(4) : from(1, 20, odd));
                break;
            case "catchEcho":
                call(name, catcher(odd), 0, 0);
                break;
            case "wind":
                call(name, from(-2, 2, odd), 0, 0);
                break;
            case "text":
                text();
                break;
            case "restore":
                call(below(4) == 0 ? name : "beat", 0, 0, 0);
                break;
            default:
                call(name, 0, 0, 0);
                break;
        }
    }

    /** What the model answers, or the number otherwise if it throws. */
    private int told(String name, int one, int two, int otherwise) {
        String answer = model.call(name, one, two, 0);
        return answer.startsWith("throws.") ? otherwise : Integer.parseInt(answer);
    }

    private int player(int odd) {
        return from(0, Math.max(0, told("account", 1, 0, 0) - 1), odd);
    }

    /** Mostly a player who is where an echo is. */
    private int catcher(int odd) {
        int first = player(odd);
        for (int count = 0; count < 6; count++) {
            int player = Math.floorMod(first + count, 6);
            if (told("comes", player, 0, -1) == 0) {
                return player;
            }
        }
        return first;
    }

    private void text() {
        if (told("account", 11, 0, 0) > 0) {
            call("commands", 0, 0, 0);
        }
        StringBuilder text = new StringBuilder(command());
        while (below(3) > 0 && text.length() < 50) {
            text.append(';').append(command());
        }
        if (below(6) == 0) {
            text.setCharAt(below(text.length()), "wopmsbcv0159=@>+-; ?".charAt(below(20)));
        }
        if (below(12) == 0) {
            text.setLength(below(text.length()));
        }
        for (int index = 0; index < text.length() && calls < CALLS; index++) {
            call("append", text.charAt(index), 0, 0);
        }
        call("commands", 0, 0, 0);
        call("faultPosition", 0, 0, 0);
    }

    private static String command() {
        String place = below(4) == 0 ? "0" + below(10) : "" + below(17);
        String side = below(2) == 0 ? "+" : "-";
        String[] forms = {"w" + place + "=" + below(10), "o" + below(4) + "@" + place, "p" + below(3) + "@" + place,
            "m" + below(6) + ">" + place, "s" + below(6) + side + below(23), "b", "b", "c" + below(6),
            "v" + side + below(4)};
        return forms[below(forms.length)];
    }

    private void answer(String name, int odd) {
        int sound = from(0, Math.max(0, told("account", 2, 0, 0) - 1), odd);
        int team = from(0, 2, odd);
        int place = from(0, 15, odd);
        int player = player(odd);
        switch (name) {
            case "wallOf":
            case "nextWall":
                call(name, place, below(2), 0);
                break;
            case "teamOf":
                call(name, team, from(0, 5, odd), 0);
                break;
            case "playerOf":
                call(name, player, from(0, 4, odd), 0);
                break;
            case "soundOf":
                call(name, sound, from(0, 4, odd), 0);
                break;
            case "where":
            case "loudIn":
                call(name, sound, below(2) == 0 ? below(8) : from(0, 20, odd), 0);
                break;
            case "isEcho":
            case "goneIn":
            case "goneInAgain":
            case "loudest":
            case "soundLine":
                call(name, sound, 0, 0);
                break;
            case "echoesAt":
            case "bestTeam":
                call(name, place, 0, 0);
                break;
            case "comes":
            case "comesAgain":
                call(name, player, 0, 0);
                break;
            case "returns":
                call(name, player, below(2), from(1, 20, odd));
                break;
            case "bestLoudness":
                call(name, player, below(2), 0);
                break;
            case "price":
                call(name, team, place, 0);
                break;
            case "ranked":
                call(name, from(0, 3, odd), from(0, 2, odd), 0);
                break;
            case "append":
                call(name, below(10) == 0 ? below(65536) : "b;v+1".charAt(below(5)), 0, 0);
                break;
            case "commands":
                call(below(4) == 0 ? name : "append", 'b', 0, 0);
                break;
            case "reason":
                call(name, from(0, 2, odd), 0, 0);
                break;
            case "character":
                call(name, below(40) - 1, 0, 0);
                break;
            case "account":
                call(name, from(0, 11, odd), 0, 0);
                break;
            default:
                call(name, 0, 0, 0);
                break;
        }
    }

    private void call(String name, int one, int two, int three) {
        if (calls >= CALLS || !isRight) {
            return;
        }
        calls++;
        run.append(name).append('(').append(one).append(", ").append(two).append(", ").append(three).append(") ");
        String due = model.call(name, one, two, three);
        String got;
        try {
            got = Calls.on(canyon, name, one, two, three);
        } catch (RuntimeException thrown) {
            got = "throws." + thrown.getClass().getSimpleName();
            if (!thrown.getStackTrace()[0].getClassName().startsWith("EchoCanyon")) {
                got = "the machine throws " + thrown;
            }
        }
        int[] made = MADE.computeIfAbsent(name, key -> new int[2]);
        made[0]++;
        made[1] += got.startsWith("throws.") ? 1 : 0;
        if (!due.equals(got)) {
            isRight = false;
            Check.fail("answered " + got + ", due is " + due + ", by the last of: " + run);
        }
    }
}
