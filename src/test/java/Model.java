import java.util.ArrayDeque;
import java.util.ArrayList;
import java.util.Comparator;
import java.util.Deque;
import java.util.List;
import java.util.regex.Matcher;
import java.util.regex.Pattern;
import java.util.stream.IntStream;

/**
 * The canyon once more, from the words of the document and by other means than the class: what there is is a value that
 * each beat makes anew. A call that throws is answered by "throws." and the exception's name.
 */
final class Model {
    private static final String COMMAND = "(?:w[0-9][0-9]?=[0-9]|[op][0-9]@[0-9][0-9]?|m[0-9]>[0-9][0-9]?"
            + "|s[0-9][+-][0-9][0-9]?|b|c[0-9]|v[+-][0-9])";
    private static final Pattern TEXT = Pattern.compile(COMMAND + "(?:;" + COMMAND + ")*");
    private static final String INDEX = "throws.IndexOutOfBoundsException";
    private static final String ARGUMENT = "throws.IllegalArgumentException";
    private static final String NONE = "throws.NoSuchElementException";
    private static final String STATE = "throws.IllegalStateException";
    private static final String REFUSED = "throws.UnsupportedOperationException";
    private static final String ARITHMETIC = "throws.ArithmeticException";

    record Wall(int height, int team) {
    }

    record Player(int team, int place, int hoarse, int shouts, int catches) {
    }

    record Sound(int place, int loudness, int team, int times, boolean isGreater) {
        boolean isEcho() {
            return times >= 1;
        }
    }

    /** All that can be undone. */
    private static final class Scene {
        Wall[] walls = new Wall[16];
        int[] points = {10, 10, 10};
        int[] caught = new int[3];
        int[] intercepted = new int[3];
        List<Player> players = new ArrayList<>();
        List<Sound> sounds = new ArrayList<>();
        int wind;
        int beats;
        int shouts;
        int times;
        int echoPoints;
        int paid;

        Scene copy() {
            Scene copy = new Scene();
            copy.walls = walls.clone();
            copy.points = points.clone();
            copy.caught = caught.clone();
            copy.intercepted = intercepted.clone();
            copy.players = new ArrayList<>(players);
            copy.sounds = new ArrayList<>(sounds);
            copy.wind = wind;
            copy.beats = beats;
            copy.shouts = shouts;
            copy.times = times;
            copy.echoPoints = echoPoints;
            copy.paid = paid;
            return copy;
        }

        /** What becomes of a sound in a beat, or null if it is gone. */
        Sound next(Sound sound) {
            int left = sound.loudness() - Math.max(1, sound.isGreater() ? 2 - wind : 2 + wind);
            int place = sound.isGreater() ? sound.place() + 1 : sound.place() - 1;
            if (left < 1 || place < 0 || place > 15) {
                return null;
            }
            Wall wall = walls[place];
            if (wall == null) {
                return new Sound(place, left, sound.team(), sound.times(), sound.isGreater());
            }
            if (wall.height() >= Math.floorDiv(left, 3)) {
                return new Sound(sound.place(), left, sound.team(), sound.times() + 1, !sound.isGreater());
            }
            return new Sound(place, left - wall.height(), sound.team(), sound.times(), sound.isGreater());
        }

        Sound behind(Sound sound, int beats) {
            return sound == null || beats == 0 ? sound : behind(next(sound), beats - 1);
        }

        int price(int team, int place) {
            Wall wall = walls[place];
            return wall.team() == team ? 0 : wall.team() < 0 ? wall.height() : 2 * wall.height();
        }

        int[] echoesAt(int place) {
            return IntStream.range(0, sounds.size())
                    .filter(number -> sounds.get(number).isEcho() && sounds.get(number).place() == place).toArray();
        }
    }

    private Scene scene = new Scene();
    private final Deque<Scene> before = new ArrayDeque<>();
    private Scene saved;
    private String text = "";
    private int fault = -1;
    private int[] reason;
    private String line = "";

    /** Why a call is refused, as reason and detail, or null. */
    private static int[] why(Scene scene, String name, int one, int two) {
        List<int[]> reasons = new ArrayList<>();
        boolean isPlayer = one >= 0 && one < scene.players.size();
        switch (name) {
            case "wall":
                applies(reasons, one < 0 || one > 15 || two < 0 || two > 9, 1, 0);
                if (reasons.isEmpty()) {
                    int height = scene.walls[one] == null ? 0 : scene.walls[one].height();
                    int there = (int) scene.players.stream().filter(player -> player.place() == one).count();
                    applies(reasons, height == two, 6, height);
                    applies(reasons, there > 0, 2, there);
                }
                break;
            case "own":
                applies(reasons, one < 0 || one > 2 || two < 0 || two > 15, 1, 0);
                if (reasons.isEmpty()) {
                    applies(reasons, scene.walls[two] == null, 5, 0);
                }
                if (reasons.isEmpty()) {
                    applies(reasons, scene.walls[two].team() == one, 6, one);
                    int lacking = scene.price(one, two) - scene.points[one];
                    applies(reasons, lacking > 0, 7, lacking);
                }
                break;
            case "player":
                applies(reasons, one < 0 || one > 2 || two < 0 || two > 15, 1, 0);
                applies(reasons, scene.players.size() == 6, 2, 6);
                if (reasons.isEmpty()) {
                    Wall wall = scene.walls[two];
                    applies(reasons, wall != null, 4, wall == null ? 0 : wall.height());
                }
                break;
            case "move":
                applies(reasons, !isPlayer, 3, scene.players.size());
                applies(reasons, two < 0 || two > 15, 1, 0);
                if (reasons.isEmpty()) {
                    int from = scene.players.get(one).place();
                    Wall wall = scene.walls[two];
                    applies(reasons, from == two, 6, two);
                    applies(reasons, Math.abs(from - two) > 3, 8, Math.abs(from - two));
                    applies(reasons, wall != null, 4, wall == null ? 0 : wall.height());
                }
                break;
            case "shout":
                applies(reasons, !isPlayer, 3, scene.players.size());
                applies(reasons, two < 1 || two > 20, 1, 0);
                if (isPlayer) {
                    applies(reasons, scene.players.get(one).hoarse() > 0, 9, scene.players.get(one).hoarse());
                }
                applies(reasons, scene.sounds.size() == 8, 2, 8);
                break;
            case "beat":
                applies(reasons, scene.sounds.isEmpty(), 11, 0);
                break;
            case "catchEcho":
                applies(reasons, !isPlayer, 3, scene.players.size());
                if (isPlayer) {
                    int place = scene.players.get(one).place();
                    int there = (int) scene.sounds.stream().filter(sound -> sound.place() == place).count();
                    applies(reasons, scene.echoesAt(place).length == 0, 10, there);
                }
                break;
            default:
                applies(reasons, one < -2 || one > 2, 1, 0);
                applies(reasons, one == scene.wind, 6, one);
                break;
        }
        return reasons.isEmpty() ? null : reasons.get(0);
    }

    private static void applies(List<int[]> reasons, boolean isSo, int number, int detail) {
        if (isSo) {
            reasons.add(new int[] {number, detail});
        }
    }

    /** Carries out a call that is not refused. */
    private static int carryOut(Scene scene, String name, int one, int two, boolean isGreater) {
        switch (name) {
            case "wall":
                Wall old = scene.walls[one];
                scene.walls[one] = two == 0 ? null : new Wall(two, old == null ? -1 : old.team());
                return old == null ? 0 : old.height();
            case "own":
                Wall bought = scene.walls[two];
                int price = scene.price(one, two);
                scene.points[one] -= price;
                if (bought.team() >= 0) {
                    scene.points[bought.team()] += price;
                } else {
                    scene.paid += price;
                }
                scene.walls[two] = new Wall(bought.height(), one);
                return scene.points[one];
            case "player":
                scene.players.add(new Player(one, two, 0, 0, 0));
                return scene.players.size() - 1;
            case "move":
                Player moved = scene.players.get(one);
                scene.players.set(one, new Player(moved.team(), two, moved.hoarse(), moved.shouts(), moved.catches()));
                return (int) scene.sounds.stream().filter(sound -> sound.place() == two).count();
            case "shout":
                Player loud = scene.players.get(one);
                scene.players.set(one,
                        new Player(loud.team(), loud.place(), two / 4, loud.shouts() + 1, loud.catches()));
                scene.sounds.add(new Sound(loud.place(), two, loud.team(), 0, isGreater));
                scene.shouts++;
                return scene.sounds.size() - 1;
            case "beat":
                return beat(scene);
            case "catchEcho":
                return catchEcho(scene, one);
            default:
                int wind = scene.wind;
                scene.wind = one;
                return wind;
        }
    }

    private static int beat(Scene scene) {
        List<Sound> left = new ArrayList<>();
        for (Sound sound : scene.sounds) {
            Sound next = scene.next(sound);
            if (next != null) {
                left.add(next);
                if (next.times() > sound.times()) {
                    scene.times++;
                    Wall wall = scene.walls[sound.isGreater() ? sound.place() + 1 : sound.place() - 1];
                    if (wall.team() >= 0) {
                        scene.points[wall.team()]++;
                    }
                }
            }
        }
        int gone = scene.sounds.size() - left.size();
        scene.sounds = left;
        scene.players.replaceAll(player -> new Player(player.team(), player.place(),
                Math.max(0, player.hoarse() - 1), player.shouts(), player.catches()));
        scene.beats++;
        return gone;
    }

    private static int catchEcho(Scene scene, int number) {
        Player player = scene.players.get(number);
        int best = IntStream.of(scene.echoesAt(player.place())).boxed()
                .min(Comparator.<Integer>comparingInt(sound -> -scene.sounds.get(sound).loudness())
                        .thenComparingInt(sound -> sound)).orElseThrow();
        Sound echo = scene.sounds.remove(best);
        int points = echo.team() == player.team() ? echo.loudness() : echo.loudness() * 2;
        scene.points[player.team()] += points;
        scene.echoPoints += points;
        scene.caught[player.team()]++;
        scene.intercepted[player.team()] += echo.team() == player.team() ? 0 : 1;
        scene.players.set(number, new Player(player.team(), player.place(), player.hoarse(), player.shouts(),
                player.catches() + 1));
        return points;
    }

    private String change(String name, int one, int two, boolean isGreater) {
        int[] why = why(scene, name, one, two);
        if (why != null) {
            reason = new int[] {why[0], why[1], 0};
            return REFUSED;
        }
        keep();
        return "" + carryOut(scene, name, one, two, isGreater);
    }

    private void keep() {
        before.addLast(scene.copy());
        if (before.size() > 8) {
            before.removeFirst();
        }
    }

    private static int faultOf(String text) {
        if (TEXT.matcher(text).matches()) {
            return -1;
        }
        for (int index = 0; index < text.length(); index++) {
            Matcher matcher = TEXT.matcher(text.substring(0, index + 1));
            if (!matcher.matches() && !matcher.hitEnd()) {
                return index;
            }
        }
        return text.length();
    }

    private String commands() {
        String told = text;
        text = "";
        fault = faultOf(told);
        if (fault >= 0) {
            return ARGUMENT;
        }
        Scene tried = scene.copy();
        String[] commands = told.split(";");
        for (int index = 0; index < commands.length; index++) {
            int[] why = command(tried, commands[index]);
            if (why != null) {
                reason = new int[] {why[0], why[1], index};
                return REFUSED;
            }
        }
        keep();
        scene = tried;
        return "" + commands.length;
    }

    private static int[] command(Scene scene, String command) {
        String[] names = {"wall", "own", "player", "move", "shout", "beat", "catchEcho", "wind"};
        String name = names["wopmsbcv".indexOf(command.charAt(0))];
        boolean isGreater = command.indexOf('+') >= 0;
        String[] parts = command.substring(1).split("[=@>+-]");
        int one = parts[0].isEmpty() ? 0 : Integer.parseInt(parts[0]);
        int two = parts.length < 2 ? 0 : Integer.parseInt(parts[1]);
        if (name.equals("wind")) {
            one = isGreater ? two : -two;
        }
        int[] why = why(scene, name, one, two);
        if (why == null) {
            carryOut(scene, name, one, two, isGreater);
        }
        return why;
    }

    /** A call of the face by its name, a boolean as 1 or 0. */
    String call(String name, int one, int two, int three) {
        switch (name) {
            case "wall":
            case "own":
            case "player":
            case "move":
            case "beat":
            case "catchEcho":
            case "wind":
                return change(name, one, two, false);
            case "shout":
                return change(name, one, three, two == 1);
            case "commands":
                return commands();
            case "append":
                if (text.length() == 60) {
                    return STATE;
                }
                text += (char) one;
                return "" + text.length();
            case "faultPosition":
                return "" + fault;
            case "reason":
                return one < 0 || one > 2 ? ARGUMENT : reason == null ? NONE : "" + reason[one];
            case "undo":
                if (before.isEmpty()) {
                    return STATE;
                }
                scene = before.removeLast();
                return "" + before.size();
            case "save":
                saved = scene.copy();
                return "" + saved.players.size();
            case "restore":
                if (saved == null) {
                    return STATE;
                }
                scene = saved.copy();
                before.clear();
                return "" + scene.players.size();
            default:
                return answer(name, one, two, three);
        }
    }

    private String answer(String name, int one, int two, int three) {
        boolean isPlace = one >= 0 && one <= 15;
        boolean isTeam = one >= 0 && one <= 2;
        boolean isPlayer = one >= 0 && one < scene.players.size();
        boolean isSound = one >= 0 && one < scene.sounds.size();
        switch (name) {
            case "wallOf":
                return !isPlace ? INDEX : "" + wallOf(one, two == 1);
            case "teamOf":
                return !isTeam ? INDEX : two < 0 || two > 5 ? ARGUMENT : "" + teamOf(one)[two];
            case "playerOf":
                return !isPlayer ? INDEX : two < 0 || two > 4 ? ARGUMENT : "" + playerOf(one)[two];
            case "soundOf":
                return !isSound ? INDEX : two < 0 || two > 4 ? ARGUMENT : "" + soundOf(one)[two];
            case "isEcho":
                return !isSound ? INDEX : scene.sounds.get(one).isEcho() ? "1" : "0";
            case "echoesAt":
                return !isPlace ? INDEX : "" + IntStream.of(scene.echoesAt(one)).map(number -> 1 << number).sum();
            case "where":
                return !isSound ? INDEX : two < 0 || two > 20 ? ARGUMENT : where(one, two);
            case "loudIn":
                return !isSound ? INDEX : two < 0 || two > 20 ? ARGUMENT : "" + loudIn(one, two);
            case "goneIn":
            case "goneInAgain":
                return !isSound ? INDEX : "" + IntStream.range(0, 99).filter(beats -> loudIn(one, beats) == 0)
                        .findFirst().orElseThrow();
            case "comes":
            case "comesAgain":
                return !isPlayer ? INDEX : comes(scene.players.get(one).place());
            case "returns":
                return !isPlayer ? INDEX : three < 1 || three > 20 ? ARGUMENT : "" + returns(one, two == 1, three);
            case "bestLoudness":
                return !isPlayer ? INDEX : bestLoudness(one, two == 1);
            case "bestTeam":
                return !isPlace ? INDEX : scene.walls[one] == null ? NONE : bestTeam(one);
            case "price":
                return !isTeam || two < 0 || two > 15 ? INDEX
                        : scene.walls[two] == null ? NONE : "" + scene.price(one, two);
            case "nextWall":
                return !isPlace ? INDEX : nextWall(one, two == 1);
            case "ranked":
                return one < 0 || one > 3 ? ARGUMENT : two < 0 || two > 2 ? NONE : "" + ranked(one, two);
            case "loudest":
                return !isSound ? NONE : "" + loudest(one);
            default:
                return written(name, one, isSound);
        }
    }

    private String written(String name, int one, boolean isSound) {
        switch (name) {
            case "isEven":
                return "1";
            case "line":
                line = walls();
                return "" + line.length();
            case "soundLine":
                line = isSound ? soundLine(scene.sounds.get(one)) : line;
                return isSound ? "" + line.length() : INDEX;
            case "character":
                return one < 0 || one >= line.length() ? INDEX : "" + (int) line.charAt(one);
            case "meanLoudness":
                return scene.sounds.isEmpty() ? ARITHMETIC
                        : "" + scene.sounds.stream().mapToInt(Sound::loudness).sum() / (double) scene.sounds.size();
            case "echoShare":
                return scene.sounds.isEmpty() ? ARITHMETIC : "" + echoes() / (float) scene.sounds.size();
            default:
                return one < 0 || one > 11 ? ARGUMENT : "" + accounts()[one];
        }
    }

    private int wallOf(int place, boolean isTeam) {
        Wall wall = scene.walls[place];
        return isTeam ? wall == null ? -1 : wall.team() : wall == null ? 0 : wall.height();
    }

    private IntStream wallsOf(int team) {
        return IntStream.range(0, 16).filter(place -> scene.walls[place] != null && scene.walls[place].team() == team);
    }

    private int[] teamOf(int team) {
        return new int[] {scene.points[team], (int) wallsOf(team).count(),
            (int) scene.players.stream().filter(player -> player.team() == team).count(),
            (int) scene.sounds.stream().filter(sound -> sound.team() == team).count(), scene.caught[team],
            scene.intercepted[team]};
    }

    private int[] playerOf(int number) {
        Player player = scene.players.get(number);
        return new int[] {player.team(), player.place(), player.hoarse(), player.shouts(), player.catches()};
    }

    private int[] soundOf(int number) {
        Sound sound = scene.sounds.get(number);
        return new int[] {sound.place(), sound.loudness(), sound.team(), sound.times(), sound.isGreater() ? 1 : 0};
    }

    private String where(int number, int beats) {
        Sound then = scene.behind(scene.sounds.get(number), beats);
        return then == null ? NONE : "" + then.place();
    }

    private int loudIn(int number, int beats) {
        Sound then = scene.behind(scene.sounds.get(number), beats);
        return then == null ? 0 : then.loudness();
    }

    private String comes(int place) {
        Scene ahead = scene.copy();
        for (int beats = 0; beats < 99; beats++) {
            if (ahead.echoesAt(place).length > 0) {
                return "" + beats;
            }
            beat(ahead);
        }
        return NONE;
    }

    private int returns(int number, boolean isGreater, int loudness) {
        Player player = scene.players.get(number);
        Sound sound = new Sound(player.place(), loudness, player.team(), 0, isGreater);
        while (sound != null && !(sound.isEcho() && sound.place() == player.place())) {
            sound = scene.next(sound);
        }
        return sound == null ? 0 : sound.loudness();
    }

    private String bestLoudness(int number, boolean isGreater) {
        int most = IntStream.rangeClosed(1, 20).map(loudness -> returns(number, isGreater, loudness)).max().orElse(0);
        return most == 0 ? NONE : "" + IntStream.rangeClosed(1, 20)
                .filter(loudness -> returns(number, isGreater, loudness) == most).findFirst().orElseThrow();
    }

    private String bestTeam(int place) {
        return IntStream.range(0, 3).boxed()
                .filter(team -> scene.walls[place].team() != team && scene.points[team] >= scene.price(team, place))
                .max(Comparator.<Integer>comparingInt(team -> scene.points[team] - scene.price(team, place))
                        .thenComparingInt(team -> -team))
                .map(team -> "" + team).orElse(NONE);
    }

    private String nextWall(int from, boolean isGreater) {
        IntStream walls = IntStream.range(0, 16).filter(place -> scene.walls[place] != null);
        return isGreater ? walls.filter(place -> place > from).boxed().findFirst().map(place -> "" + place).orElse(NONE)
                : walls.filter(place -> place < from).boxed().reduce((one, other) -> other).map(place -> "" + place)
                        .orElse(NONE);
    }

    private int ranked(int measure, int place) {
        return IntStream.range(0, 3).boxed().sorted(Comparator.<Integer>comparingInt(team -> -measured(measure, team)))
                .toList().get(place);
    }

    private int measured(int measure, int team) {
        int[] numbers = {scene.points[team], (int) wallsOf(team).count(),
            wallsOf(team).map(place -> scene.walls[place].height()).sum(), scene.caught[team]};
        return numbers[measure];
    }

    private int loudest(int place) {
        return IntStream.range(0, scene.sounds.size()).boxed()
                .sorted(Comparator.<Integer>comparingInt(number -> -scene.sounds.get(number).loudness())
                        .thenComparingInt(number -> scene.sounds.get(number).isEcho() ? 0 : 1))
                .toList().get(place);
    }

    private String walls() {
        StringBuilder written = new StringBuilder();
        for (Wall wall : scene.walls) {
            written.append(wall == null ? "." : "" + wall.height());
            written.append(wall == null || wall.team() < 0 ? "" : "" + "abc".charAt(wall.team()));
        }
        return written.toString();
    }

    private static String soundLine(Sound sound) {
        return sound.place() + (sound.isGreater() ? ">" : "<") + sound.loudness() + "abc".charAt(sound.team())
                + (sound.isEcho() ? "!" : "");
    }

    private int echoes() {
        return (int) scene.sounds.stream().filter(Sound::isEcho).count();
    }

    private int[] accounts() {
        int walls = (int) IntStream.range(0, 16).filter(place -> scene.walls[place] != null).count();
        return new int[] {walls, scene.players.size(), scene.sounds.size(), echoes(), scene.wind, scene.beats,
            scene.shouts, scene.times, scene.echoPoints, scene.paid, before.size(), text.length()};
    }
}
