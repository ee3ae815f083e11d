import java.util.NoSuchElementException;

/** A sport of echoes in a canyon; shared/DOC.md tells what each method promises. */
public final class EchoCanyon {
    private static final int PLACES = 16;
    private static final int HIGHEST_WALL = 9;
    private static final int TEAMS = 3;
    private static final int NO_TEAM = -1;
    private static final int FIRST_POINTS = 10;
    private static final int STRONGEST_WIND = 2;
    private static final int MOST_PLAYERS = 6;
    private static final int LONGEST_MOVE = 3;
    private static final int MOST_SOUNDS = 8;
    private static final int LOUDEST = 20;
    /** A sound loses 1 at least in a beat, so the loudest one is gone by then. */
    private static final int LONGEST_LIFE = LOUDEST;
    private static final int MOST_BEATS_AHEAD = 20;
    private static final int MOST_UNDOS = 8;
    private static final int LONGEST_TEXT = 60;
    private static final int LONGEST_LINE = 2 * PLACES;
    private static final int NEVER = -1;

    private static final int OUT_OF_RANGE = 1;
    private static final int TOO_MANY = 2;
    private static final int NO_PLAYER = 3;
    private static final int WALL_THERE = 4;
    private static final int NO_WALL = 5;
    private static final int ALREADY_SO = 6;
    private static final int TOO_FEW_POINTS = 7;
    private static final int TOO_FAR = 8;
    private static final int HOARSE = 9;
    private static final int NO_ECHO = 10;
    private static final int NO_SOUNDS = 11;

    private final Canyon canyon = new Canyon();
    private final History history = new History();
    private final Canyon snapshot = new Canyon();
    private boolean hasSnapshot;
    private final Refusal refusal = new Refusal();
    private final Text text = new Text();
    private final Line lineWritten = new Line();
    private final Order order = new Order();
    /** A canyon to try things in: a text's commands, or the beats ahead. */
    private final Canyon draft = new Canyon();
    /** A sound to send ahead alone. */
    private final Sound probe = new Sound();

    /** Creates a canyon without walls, players and sounds. */
    public EchoCanyon() {
    }

    // ---- Changes

    /** Tells the wall at a place; returns the height before. */
    public int wall(int place, int height) throws UnsupportedOperationException {
        return change(Command.WALL, place, height, false);
    }

    /** Lets a team buy a wall; returns how many points it has then. */
    public int own(int team, int place) throws UnsupportedOperationException {
        return change(Command.OWN, team, place, false);
    }

    /** Lets a player come; returns its number. */
    public int player(int team, int place) throws UnsupportedOperationException {
        return change(Command.PLAYER, team, place, false);
    }

    /** Moves a player; returns how many sounds are at the place. */
    public int move(int player, int place) throws UnsupportedOperationException {
        return change(Command.MOVE, player, place, false);
    }

    /** Lets a player shout; returns the number of the sound. */
    public int shout(int player, boolean isGreater, int loudness) throws UnsupportedOperationException {
        return change(Command.SHOUT, player, loudness, isGreater);
    }

    /** Lets a beat go by; returns how many sounds are gone by that. */
    public int beat() throws UnsupportedOperationException {
        return change(Command.BEAT, 0, 0, false);
    }

    /** Lets a player catch an echo; returns how many points the team gets. */
    public int catchEcho(int player) throws UnsupportedOperationException {
        return change(Command.CATCH, player, 0, false);
    }

    /** Tells the wind; returns the wind before. */
    public int wind(int wind) throws UnsupportedOperationException {
        return change(Command.WIND, wind, 0, false);
    }

    private int change(Command command, int first, int second, boolean isGreater) {
        order.begin(command);
        order.first = first;
        order.second = second;
        order.isGreater = isGreater;
        if (canyon.isRefused(order, refusal)) {
            throw new UnsupportedOperationException("refused: see reason");
        }
        history.keep(canyon);
        return canyon.carryOut(order);
    }

    // ---- Walls, teams, players and sounds

    /** Returns the height of the wall at a place, or the team to which it belongs. */
    public int wallOf(int place, boolean isTeam) throws IndexOutOfBoundsException {
        checkPlace(place);
        return isTeam ? canyon.walls.ownerAt(place) : canyon.walls.heightAt(place);
    }

    /** Returns a number of a team. */
    public int teamOf(int team, int what) throws IndexOutOfBoundsException, IllegalArgumentException {
        checkTeam(team);
        switch (what) {
            case 0:
                return canyon.teams.pointsOf(team);
            case 1:
                return canyon.walls.countOf(team);
            case 2:
                return canyon.countPlayersOf(team);
            case 3:
                return canyon.countSoundsOf(team);
            case 4:
                return canyon.teams.catchesOf(team);
            case 5:
                return canyon.teams.interceptionsOf(team);
            default:
                throw new IllegalArgumentException("no such number of a team");
        }
    }

    /** Returns a number of a player. */
    public int playerOf(int player, int what) throws IndexOutOfBoundsException, IllegalArgumentException {
        checkPlayer(player);
        Player told = canyon.players[player];
        switch (what) {
            case 0:
                return told.team;
            case 1:
                return told.place;
            case 2:
                return told.hoarseBeats;
            case 3:
                return told.shouts;
            case 4:
                return told.catches;
            default:
                throw new IllegalArgumentException("no such number of a player");
        }
    }

    /** Returns a number of a sound. */
    public int soundOf(int sound, int what) throws IndexOutOfBoundsException, IllegalArgumentException {
        checkSound(sound);
        Sound told = canyon.sounds[sound];
        switch (what) {
            case 0:
                return told.place;
            case 1:
                return told.loudness;
            case 2:
                return told.team;
            case 3:
                return told.throwBacks;
            case 4:
                return told.isGreater ? 1 : 0;
            default:
                throw new IllegalArgumentException("no such number of a sound");
        }
    }

    /** Returns whether a sound is an echo. */
    public boolean isEcho(int sound) throws IndexOutOfBoundsException {
        checkSound(sound);
        return canyon.sounds[sound].wasThrownBack();
    }

    /** Returns the set of the echoes at a place, bit k for the sound k. */
    public int echoesAt(int place) throws IndexOutOfBoundsException {
        checkPlace(place);
        return canyon.echoSetAt(place);
    }

    // ---- What is ahead

    /** Returns where a sound would be behind some beats. */
    public int where(int sound, int beats)
            throws IndexOutOfBoundsException, IllegalArgumentException, NoSuchElementException {
        checkSound(sound);
        checkBeatsAhead(beats);
        sendProbe(sound, beats);
        if (probe.isGone()) {
            throw new NoSuchElementException("the sound would be gone");
        }
        return probe.place;
    }

    /** Returns how loud a sound would be behind some beats, 0 if it would be gone. */
    public int loudIn(int sound, int beats) throws IndexOutOfBoundsException, IllegalArgumentException {
        checkSound(sound);
        checkBeatsAhead(beats);
        sendProbe(sound, beats);
        return probe.loudness;
    }

    /** Returns behind how many beats a sound would be gone: by itself alone. */
    public int goneIn(int sound) throws IndexOutOfBoundsException {
        checkSound(sound);
        probe.take(canyon.sounds[sound]);
        int beats = 0;
        while (beats < LONGEST_LIFE && !probe.isGone()) {
            probe.goOn(canyon.walls, canyon.wind);
            beats++;
        }
        return beats;
    }

    /** Returns behind how many beats a sound would be gone: with all sounds, beat by beat. */
    public int goneInAgain(int sound) throws IndexOutOfBoundsException {
        checkSound(sound);
        draft.take(canyon);
        int number = sound;
        int beats = 0;
        boolean isGone = false;
        while (beats < LONGEST_LIFE && !isGone) {
            int gone = draft.passBeat();
            int goneAhead = gone & ((1 << number) - 1);
            isGone = (gone & (1 << number)) != 0;
            number -= Integer.bitCount(goneAhead);
            beats++;
        }
        return beats;
    }

    /** Returns when the first echo would be at a player's place: with all sounds, beat by beat. */
    public int comes(int player) throws IndexOutOfBoundsException, NoSuchElementException {
        checkPlayer(player);
        int place = canyon.players[player].place;
        draft.take(canyon);
        for (int beats = 0; beats <= LONGEST_LIFE; beats++) {
            if (draft.echoSetAt(place) != 0) {
                return beats;
            }
            draft.passBeat();
        }
        throw new NoSuchElementException("no echo would ever come");
    }

    /** Returns when the first echo would be at a player's place: sound by sound. */
    public int comesAgain(int player) throws IndexOutOfBoundsException, NoSuchElementException {
        checkPlayer(player);
        int place = canyon.players[player].place;
        int first = NEVER;
        for (int sound = 0; sound < canyon.soundCount; sound++) {
            probe.take(canyon.sounds[sound]);
            int beats = sendProbeTo(place);
            if (beats != NEVER && (first == NEVER || beats < first)) {
                first = beats;
            }
        }
        if (first == NEVER) {
            throw new NoSuchElementException("no echo would ever come");
        }
        return first;
    }

    /** Returns how loud a shout would be when it first was at the player's place as an echo. */
    public int returns(int player, boolean isGreater, int loudness)
            throws IndexOutOfBoundsException, IllegalArgumentException {
        checkPlayer(player);
        if (!isWithin(loudness, 1, LOUDEST)) {
            throw new IllegalArgumentException("no such loudness");
        }
        return loudnessOfReturn(player, isGreater, loudness);
    }

    /** Returns the least loudness with which a shout would be the loudest when it returned. */
    public int bestLoudness(int player, boolean isGreater) throws IndexOutOfBoundsException, NoSuchElementException {
        checkPlayer(player);
        int best = 0;
        int loudestReturn = 0;
        for (int loudness = 1; loudness <= LOUDEST; loudness++) {
            int returned = loudnessOfReturn(player, isGreater, loudness);
            if (returned > loudestReturn) {
                best = loudness;
                loudestReturn = returned;
            }
        }
        if (best == 0) {
            throw new NoSuchElementException("no shout would return");
        }
        return best;
    }

    private void sendProbe(int sound, int beats) {
        probe.take(canyon.sounds[sound]);
        for (int beat = 0; beat < beats; beat++) {
            probe.goOn(canyon.walls, canyon.wind);
        }
    }

    /** Sends the probe on until it is an echo at the place; returns how many beats that takes, or NEVER. */
    private int sendProbeTo(int place) {
        for (int beats = 0; beats <= LONGEST_LIFE; beats++) {
            if (probe.isEchoAt(place)) {
                return beats;
            }
            probe.goOn(canyon.walls, canyon.wind);
        }
        return NEVER;
    }

    private int loudnessOfReturn(int player, boolean isGreater, int loudness) {
        Player shouting = canyon.players[player];
        probe.start(shouting.place, isGreater, loudness, shouting.team);
        return sendProbeTo(shouting.place) == NEVER ? 0 : probe.loudness;
    }

    // ---- Purchases, walls and orders

    /** Returns the team for which the wall would leave the most points if it bought it. */
    public int bestTeam(int place) throws IndexOutOfBoundsException, NoSuchElementException {
        checkPlace(place);
        int best = NO_TEAM;
        int mostLeft = 0;
        for (int team = 0; team < TEAMS; team++) {
            int left = canyon.teams.pointsOf(team) - canyon.walls.priceFor(team, place);
            boolean canBuy = canyon.walls.ownerAt(place) != team && left >= 0;
            if (canBuy && (best == NO_TEAM || left > mostLeft)) {
                best = team;
                mostLeft = left;
            }
        }
        if (!canyon.walls.isAt(place) || best == NO_TEAM) {
            throw new NoSuchElementException("no wall, or no team that could buy it");
        }
        return best;
    }

    /** Returns what a wall would cost a team, 0 if it belongs to it. */
    public int price(int team, int place) throws IndexOutOfBoundsException, NoSuchElementException {
        checkTeam(team);
        checkPlace(place);
        if (!canyon.walls.isAt(place)) {
            throw new NoSuchElementException("no wall at the place");
        }
        return canyon.walls.priceFor(team, place);
    }

    /** Returns the place of the next wall from a place to one side, that place left out. */
    public int nextWall(int place, boolean isGreater) throws IndexOutOfBoundsException, NoSuchElementException {
        checkPlace(place);
        int step = isGreater ? 1 : -1;
        for (int next = place + step; isPlace(next); next += step) {
            if (canyon.walls.isAt(next)) {
                return next;
            }
        }
        throw new NoSuchElementException("no wall to this side");
    }

    /** Returns the team at a place in the order of a measure: the greatest first. */
    public int ranked(int measure, int place) throws IllegalArgumentException, NoSuchElementException {
        if (!isWithin(measure, 0, 3)) {
            throw new IllegalArgumentException("no such measure");
        }
        for (int team = 0; team < TEAMS; team++) {
            if (countTeamsAhead(measure, team) == place) {
                return team;
            }
        }
        throw new NoSuchElementException("no such place in the order");
    }

    private int countTeamsAhead(int measure, int team) {
        int measured = measureOf(measure, team);
        int ahead = 0;
        for (int other = 0; other < TEAMS; other++) {
            int otherMeasured = measureOf(measure, other);
            if (otherMeasured > measured || (otherMeasured == measured && other < team)) {
                ahead++;
            }
        }
        return ahead;
    }

    private int measureOf(int measure, int team) {
        switch (measure) {
            case 0:
                return canyon.teams.pointsOf(team);
            case 1:
                return canyon.walls.countOf(team);
            case 2:
                return canyon.walls.heightsOf(team);
            default:
                return canyon.teams.catchesOf(team);
        }
    }

    /** Returns the sound at a place in the order of loudness: the loudest first, echoes ahead of others. */
    public int loudest(int place) throws NoSuchElementException {
        for (int sound = 0; sound < canyon.soundCount; sound++) {
            if (canyon.countSoundsAhead(sound) == place) {
                return sound;
            }
        }
        throw new NoSuchElementException("no such place in the order");
    }

    /** Returns whether the points of all teams are just those that came, less those that went. */
    public boolean isEven() {
        int due = TEAMS * FIRST_POINTS + canyon.echoPoints + canyon.wallPoints - canyon.paidPoints;
        return canyon.teams.pointsOfAll() == due;
    }

    // ---- Texts and reasons

    /** Appends a character to the text buffer; returns its new length. */
    public int append(char character) throws IllegalStateException {
        if (text.length >= LONGEST_TEXT) {
            throw new IllegalStateException("the text buffer is full");
        }
        text.add(character);
        return text.length;
    }

    /** Carries out the commands in the text buffer, all or none; returns their number. */
    public int commands() throws IllegalArgumentException, UnsupportedOperationException {
        text.lookForFault(order);
        if (text.faultPosition != Text.NO_FAULT) {
            text.clear();
            throw new IllegalArgumentException("the text has a fault");
        }
        draft.take(canyon);
        boolean isRefused = isRefusedInDraft();
        int count = text.commandsRead;
        text.clear();
        if (isRefused) {
            throw new UnsupportedOperationException("a command is refused: see reason");
        }
        history.keep(canyon);
        canyon.take(draft);
        return count;
    }

    /** Carries out the text's commands in the draft up to the first that is refused; returns whether one is. */
    private boolean isRefusedInDraft() {
        text.rewind();
        for (int index = 0; index < LONGEST_TEXT && text.readCommand(order); index++) {
            if (draft.isRefused(order, refusal)) {
                refusal.command = index;
                return true;
            }
            draft.carryOut(order);
        }
        return false;
    }

    /** Returns the fault position of the text of the latest call of commands, or -1. */
    public int faultPosition() {
        return text.faultPosition;
    }

    /** Returns a number of the reason that is kept. */
    public int reason(int what) throws IllegalArgumentException, NoSuchElementException {
        if (!isWithin(what, 0, 2)) {
            throw new IllegalArgumentException("no such number of a reason");
        }
        if (refusal.reason == Refusal.NONE) {
            throw new NoSuchElementException("nothing was refused");
        }
        switch (what) {
            case 0:
                return refusal.reason;
            case 1:
                return refusal.detail;
            default:
                return refusal.command;
        }
    }

    // ---- Lines and accounts

    /** Writes the canyon in place of the line before; returns the length of the line. */
    public int line() {
        lineWritten.clear();
        for (int place = 0; place < PLACES; place++) {
            if (canyon.walls.isAt(place)) {
                lineWritten.putNumber(canyon.walls.heightAt(place));
                lineWritten.putTeam(canyon.walls.ownerAt(place));
            } else {
                lineWritten.put('.');
            }
        }
        return lineWritten.length;
    }

    /** Writes a sound in place of the line before; returns the length of the line. */
    public int soundLine(int sound) throws IndexOutOfBoundsException {
        checkSound(sound);
        Sound told = canyon.sounds[sound];
        lineWritten.clear();
        lineWritten.putNumber(told.place);
        lineWritten.put(told.isGreater ? '>' : '<');
        lineWritten.putNumber(told.loudness);
        lineWritten.putTeam(told.team);
        if (told.wasThrownBack()) {
            lineWritten.put('!');
        }
        return lineWritten.length;
    }

    /** Returns a character of the line. */
    public char character(int index) throws IndexOutOfBoundsException {
        if (!isWithin(index, 0, lineWritten.length - 1)) {
            throw new IndexOutOfBoundsException("no such index in the line");
        }
        return lineWritten.characters[index];
    }

    /** Returns the mean loudness of the sounds. */
    public double meanLoudness() throws ArithmeticException {
        if (canyon.soundCount == 0) {
            throw new ArithmeticException("no sounds");
        }
        return (double) canyon.sumLoudness() / (double) canyon.soundCount;
    }

    /** Returns what part of the sounds is echoes. */
    public float echoShare() throws ArithmeticException {
        if (canyon.soundCount == 0) {
            throw new ArithmeticException("no sounds");
        }
        return (float) canyon.countEchoes() / (float) canyon.soundCount;
    }

    /** Returns an account. */
    public int account(int what) throws IllegalArgumentException {
        switch (what) {
            case 0:
                return canyon.walls.count();
            case 1:
                return canyon.playerCount;
            case 2:
                return canyon.soundCount;
            case 3:
                return canyon.countEchoes();
            case 4:
                return canyon.wind;
            case 5:
                return canyon.beats;
            case 6:
                return canyon.shouts;
            case 7:
                return canyon.throwBacks;
            case 8:
                return canyon.echoPoints;
            case 9:
                return canyon.paidPoints;
            case 10:
                return history.count;
            case 11:
                return text.length;
            default:
                throw new IllegalArgumentException("no such account");
        }
    }

    // ---- Undo and the snapshot

    /** Undoes the latest change; returns how many can still be undone. */
    public int undo() throws IllegalStateException {
        if (history.count == 0) {
            throw new IllegalStateException("nothing can be undone");
        }
        history.giveBack(canyon);
        return history.count;
    }

    /** Saves the canyon in place of an earlier snapshot; returns how many players there are. */
    public int save() {
        snapshot.take(canyon);
        hasSnapshot = true;
        return canyon.playerCount;
    }

    /** Restores what was saved; returns how many players there are. */
    public int restore() throws IllegalStateException {
        if (!hasSnapshot) {
            throw new IllegalStateException("nothing was saved");
        }
        canyon.take(snapshot);
        history.forget();
        return canyon.playerCount;
    }

    // ---- Checks

    private static boolean isWithin(int number, int least, int most) {
        return number >= least && number <= most;
    }

    private static boolean isPlace(int place) {
        return place >= 0 && place < PLACES;
    }

    private static boolean isTeam(int team) {
        return team >= 0 && team < TEAMS;
    }

    private static void checkPlace(int place) {
        if (!isPlace(place)) {
            throw new IndexOutOfBoundsException("no such place");
        }
    }

    private static void checkTeam(int team) {
        if (!isTeam(team)) {
            throw new IndexOutOfBoundsException("no such team");
        }
    }

    private void checkPlayer(int player) {
        if (!canyon.hasPlayer(player)) {
            throw new IndexOutOfBoundsException("no such player");
        }
    }

    private void checkSound(int sound) {
        if (!canyon.hasSound(sound)) {
            throw new IndexOutOfBoundsException("no such sound");
        }
    }

    private static void checkBeatsAhead(int beats) {
        if (!isWithin(beats, 0, MOST_BEATS_AHEAD)) {
            throw new IllegalArgumentException("not 0 to 20 beats");
        }
    }

    // ---- The parts

    /** The walls by place, and to whom they belong. */
    private static final class Walls {
        private final int[] heights = new int[PLACES];
        private final int[] owners = new int[PLACES];

        Walls() {
            for (int place = 0; place < PLACES; place++) {
                owners[place] = NO_TEAM;
            }
        }

        void take(Walls other) {
            System.arraycopy(other.heights, 0, heights, 0, PLACES);
            System.arraycopy(other.owners, 0, owners, 0, PLACES);
        }

        boolean isAt(int place) {
            return heightAt(place) > 0;
        }

        int heightAt(int place) {
            return isPlace(place) ? heights[place] : 0;
        }

        int ownerAt(int place) {
            return isPlace(place) ? owners[place] : NO_TEAM;
        }

        void setHeight(int place, int height) {
            if (!isPlace(place)) {
                return;
            }
            heights[place] = height;
            if (height == 0) {
                owners[place] = NO_TEAM;
            }
        }

        void setOwner(int place, int team) {
            if (isPlace(place)) {
                owners[place] = team;
            }
        }

        int priceFor(int team, int place) {
            int owner = ownerAt(place);
            if (owner == team) {
                return 0;
            }
            return owner == NO_TEAM ? heightAt(place) : 2 * heightAt(place);
        }

        int count() {
            int count = 0;
            for (int height : heights) {
                if (height > 0) {
                    count++;
                }
            }
            return count;
        }

        int countOf(int team) {
            int count = 0;
            for (int owner : owners) {
                if (owner == team) {
                    count++;
                }
            }
            return count;
        }

        int heightsOf(int team) {
            int sum = 0;
            for (int place = 0; place < PLACES; place++) {
                if (owners[place] == team) {
                    sum += heights[place];
                }
            }
            return sum;
        }
    }

    /** What the teams have. */
    private static final class Teams {
        private final int[] points = new int[TEAMS];
        private final int[] catches = new int[TEAMS];
        private final int[] interceptions = new int[TEAMS];

        Teams() {
            for (int team = 0; team < TEAMS; team++) {
                points[team] = FIRST_POINTS;
            }
        }

        void take(Teams other) {
            System.arraycopy(other.points, 0, points, 0, TEAMS);
            System.arraycopy(other.catches, 0, catches, 0, TEAMS);
            System.arraycopy(other.interceptions, 0, interceptions, 0, TEAMS);
        }

        int pointsOf(int team) {
            return isTeam(team) ? points[team] : 0;
        }

        int catchesOf(int team) {
            return isTeam(team) ? catches[team] : 0;
        }

        int interceptionsOf(int team) {
            return isTeam(team) ? interceptions[team] : 0;
        }

        int pointsOfAll() {
            int sum = 0;
            for (int teamPoints : points) {
                sum += teamPoints;
            }
            return sum;
        }

        void addPoints(int team, int more) {
            if (isTeam(team)) {
                points[team] += more;
            }
        }

        void countCatch(int team, boolean isInterception) {
            if (!isTeam(team)) {
                return;
            }
            catches[team]++;
            if (isInterception) {
                interceptions[team]++;
            }
        }
    }

    /** A player, or room for one. */
    private static final class Player {
        int team;
        int place;
        int hoarseBeats;
        int shouts;
        int catches;

        void take(Player other) {
            team = other.team;
            place = other.place;
            hoarseBeats = other.hoarseBeats;
            shouts = other.shouts;
            catches = other.catches;
        }

        void start(int newTeam, int newPlace) {
            team = newTeam;
            place = newPlace;
            hoarseBeats = 0;
            shouts = 0;
            catches = 0;
        }
    }

    /** A sound, or room for one. */
    private static final class Sound {
        int place;
        boolean isGreater;
        /** 0 when the sound is gone. */
        int loudness;
        int team;
        int throwBacks;

        void take(Sound other) {
            place = other.place;
            isGreater = other.isGreater;
            loudness = other.loudness;
            team = other.team;
            throwBacks = other.throwBacks;
        }

        void start(int newPlace, boolean newIsGreater, int newLoudness, int newTeam) {
            place = newPlace;
            isGreater = newIsGreater;
            loudness = newLoudness;
            team = newTeam;
            throwBacks = 0;
        }

        boolean isGone() {
            return loudness == 0;
        }

        boolean wasThrownBack() {
            return throwBacks > 0;
        }

        boolean isEchoAt(int somePlace) {
            return !isGone() && wasThrownBack() && place == somePlace;
        }

        int placeAhead() {
            return isGreater ? place + 1 : place - 1;
        }

        /** Goes on for a beat, if the sound is not gone. */
        void goOn(Walls walls, int wind) {
            int ahead = placeAhead();
            int left = loudness - lossIn(wind);
            if (left <= 0 || !isPlace(ahead)) {
                loudness = 0;
                return;
            }
            int height = walls.heightAt(ahead);
            if (height > 0 && height >= left / 3) {
                loudness = left;
                isGreater = !isGreater;
                throwBacks++;
            } else {
                loudness = left - height;
                place = ahead;
            }
        }

        private int lossIn(int wind) {
            return Math.max(1, isGreater ? 2 - wind : 2 + wind);
        }
    }

    /** All that can be undone. */
    private static final class Canyon {
        final Walls walls = new Walls();
        final Teams teams = new Teams();
        final Player[] players = new Player[MOST_PLAYERS];
        int playerCount;
        final Sound[] sounds = new Sound[MOST_SOUNDS];
        int soundCount;
        int wind;
        int beats;
        int shouts;
        int throwBacks;
        int echoPoints;
        int wallPoints;
        int paidPoints;

        Canyon() {
            for (int player = 0; player < MOST_PLAYERS; player++) {
                players[player] = new Player();
            }
            for (int sound = 0; sound < MOST_SOUNDS; sound++) {
                sounds[sound] = new Sound();
            }
        }

        void take(Canyon other) {
            walls.take(other.walls);
            teams.take(other.teams);
            for (int player = 0; player < MOST_PLAYERS; player++) {
                players[player].take(other.players[player]);
            }
            playerCount = other.playerCount;
            for (int sound = 0; sound < MOST_SOUNDS; sound++) {
                sounds[sound].take(other.sounds[sound]);
            }
            soundCount = other.soundCount;
            wind = other.wind;
            beats = other.beats;
            shouts = other.shouts;
            throwBacks = other.throwBacks;
            echoPoints = other.echoPoints;
            wallPoints = other.wallPoints;
            paidPoints = other.paidPoints;
        }

        boolean hasPlayer(int player) {
            return isWithin(player, 0, playerCount - 1);
        }

        boolean hasSound(int sound) {
            return isWithin(sound, 0, soundCount - 1);
        }

        // -- Counts

        int countPlayersOf(int team) {
            int count = 0;
            for (int player = 0; player < playerCount; player++) {
                if (players[player].team == team) {
                    count++;
                }
            }
            return count;
        }

        private int countPlayersAt(int place) {
            int count = 0;
            for (int player = 0; player < playerCount; player++) {
                if (players[player].place == place) {
                    count++;
                }
            }
            return count;
        }

        int countSoundsOf(int team) {
            int count = 0;
            for (int sound = 0; sound < soundCount; sound++) {
                if (sounds[sound].team == team) {
                    count++;
                }
            }
            return count;
        }

        private int countSoundsAt(int place) {
            int count = 0;
            for (int sound = 0; sound < soundCount; sound++) {
                if (sounds[sound].place == place) {
                    count++;
                }
            }
            return count;
        }

        int countEchoes() {
            int count = 0;
            for (int sound = 0; sound < soundCount; sound++) {
                if (sounds[sound].wasThrownBack()) {
                    count++;
                }
            }
            return count;
        }

        int sumLoudness() {
            int sum = 0;
            for (int sound = 0; sound < soundCount; sound++) {
                sum += sounds[sound].loudness;
            }
            return sum;
        }

        /** The set of the echoes at a place, bit k for the sound k. */
        int echoSetAt(int place) {
            int set = 0;
            for (int sound = 0; sound < soundCount; sound++) {
                if (sounds[sound].isEchoAt(place)) {
                    set |= 1 << sound;
                }
            }
            return set;
        }

        /** How many sounds are ahead of a sound in the order of loudness. */
        int countSoundsAhead(int sound) {
            int count = 0;
            for (int other = 0; other < soundCount; other++) {
                if (isAhead(other, sound)) {
                    count++;
                }
            }
            return count;
        }

        private boolean isAhead(int other, int sound) {
            Sound one = sounds[other];
            Sound two = sounds[sound];
            if (one.loudness != two.loudness) {
                return one.loudness > two.loudness;
            }
            if (one.wasThrownBack() != two.wasThrownBack()) {
                return one.wasThrownBack();
            }
            return other < sound;
        }

        // -- What is refused

        /** Returns whether an order is refused; the reason is told to the refusal then. */
        boolean isRefused(Order order, Refusal refusal) {
            switch (order.command) {
                case WALL:
                    return isWallRefused(order.first, order.second, refusal);
                case OWN:
                    return isPurchaseRefused(order.first, order.second, refusal);
                case PLAYER:
                    return isPlayerRefused(order.first, order.second, refusal);
                case MOVE:
                    return isMoveRefused(order.first, order.second, refusal);
                case SHOUT:
                    return isShoutRefused(order.first, order.second, refusal);
                case BEAT:
                    return soundCount == 0 && refusal.tell(NO_SOUNDS, 0);
                case CATCH:
                    return isCatchRefused(order.first, refusal);
                case WIND:
                default:
                    return isWindRefused(order.first, refusal);
            }
        }

        private boolean isWallRefused(int place, int height, Refusal refusal) {
            if (!isPlace(place) || !isWithin(height, 0, HIGHEST_WALL)) {
                return refusal.tell(OUT_OF_RANGE, 0);
            }
            if (walls.heightAt(place) == height) {
                return refusal.tell(ALREADY_SO, height);
            }
            int playersThere = countPlayersAt(place);
            return playersThere > 0 && refusal.tell(TOO_MANY, playersThere);
        }

        private boolean isPurchaseRefused(int team, int place, Refusal refusal) {
            if (!isTeam(team) || !isPlace(place)) {
                return refusal.tell(OUT_OF_RANGE, 0);
            }
            if (!walls.isAt(place)) {
                return refusal.tell(NO_WALL, 0);
            }
            if (walls.ownerAt(place) == team) {
                return refusal.tell(ALREADY_SO, team);
            }
            int lacking = walls.priceFor(team, place) - teams.pointsOf(team);
            return lacking > 0 && refusal.tell(TOO_FEW_POINTS, lacking);
        }

        private boolean isPlayerRefused(int team, int place, Refusal refusal) {
            if (!isTeam(team) || !isPlace(place)) {
                return refusal.tell(OUT_OF_RANGE, 0);
            }
            if (playerCount >= MOST_PLAYERS) {
                return refusal.tell(TOO_MANY, MOST_PLAYERS);
            }
            return walls.isAt(place) && refusal.tell(WALL_THERE, walls.heightAt(place));
        }

        private boolean isMoveRefused(int player, int place, Refusal refusal) {
            if (!hasPlayer(player)) {
                return refusal.tell(NO_PLAYER, playerCount);
            }
            if (!isPlace(place)) {
                return refusal.tell(OUT_OF_RANGE, 0);
            }
            int distance = Math.abs(place - players[player].place);
            if (distance == 0) {
                return refusal.tell(ALREADY_SO, place);
            }
            if (distance > LONGEST_MOVE) {
                return refusal.tell(TOO_FAR, distance);
            }
            return walls.isAt(place) && refusal.tell(WALL_THERE, walls.heightAt(place));
        }

        private boolean isShoutRefused(int player, int loudness, Refusal refusal) {
            if (!hasPlayer(player)) {
                return refusal.tell(NO_PLAYER, playerCount);
            }
            if (!isWithin(loudness, 1, LOUDEST)) {
                return refusal.tell(OUT_OF_RANGE, 0);
            }
            int hoarseBeats = players[player].hoarseBeats;
            if (hoarseBeats > 0) {
                return refusal.tell(HOARSE, hoarseBeats);
            }
            return soundCount >= MOST_SOUNDS && refusal.tell(TOO_MANY, MOST_SOUNDS);
        }

        private boolean isCatchRefused(int player, Refusal refusal) {
            if (!hasPlayer(player)) {
                return refusal.tell(NO_PLAYER, playerCount);
            }
            int place = players[player].place;
            return echoSetAt(place) == 0 && refusal.tell(NO_ECHO, countSoundsAt(place));
        }

        private boolean isWindRefused(int newWind, Refusal refusal) {
            if (!isWithin(newWind, -STRONGEST_WIND, STRONGEST_WIND)) {
                return refusal.tell(OUT_OF_RANGE, 0);
            }
            return newWind == wind && refusal.tell(ALREADY_SO, newWind);
        }

        // -- What is carried out

        /** Carries out an order that is not refused; returns what the method answers. */
        int carryOut(Order order) {
            switch (order.command) {
                case WALL:
                    return setWall(order.first, order.second);
                case OWN:
                    return buyWall(order.first, order.second);
                case PLAYER:
                    return addPlayer(order.first, order.second);
                case MOVE:
                    return movePlayer(order.first, order.second);
                case SHOUT:
                    return addShout(order.first, order.isGreater, order.second);
                case BEAT:
                    return Integer.bitCount(passBeat());
                case CATCH:
                    return catchLoudest(order.first);
                case WIND:
                default:
                    return setWind(order.first);
            }
        }

        private int setWall(int place, int height) {
            int before = walls.heightAt(place);
            walls.setHeight(place, height);
            return before;
        }

        private int buyWall(int team, int place) {
            int price = walls.priceFor(team, place);
            int owner = walls.ownerAt(place);
            teams.addPoints(team, -price);
            if (owner == NO_TEAM) {
                paidPoints += price;
            } else {
                teams.addPoints(owner, price);
            }
            walls.setOwner(place, team);
            return teams.pointsOf(team);
        }

        private int addPlayer(int team, int place) {
            int number = playerCount;
            if (number < MOST_PLAYERS) {
                players[number].start(team, place);
                playerCount++;
            }
            return number;
        }

        private int movePlayer(int player, int place) {
            if (hasPlayer(player)) {
                players[player].place = place;
            }
            return countSoundsAt(place);
        }

        private int addShout(int player, boolean isGreater, int loudness) {
            int number = soundCount;
            if (hasPlayer(player) && number < MOST_SOUNDS) {
                Player shouting = players[player];
                sounds[number].start(shouting.place, isGreater, loudness, shouting.team);
                soundCount++;
                shouting.hoarseBeats = loudness / 4;
                shouting.shouts++;
                shouts++;
            }
            return number;
        }

        /** Lets a beat go by; returns the set of the sounds that are gone, by their numbers before. */
        int passBeat() {
            int gone = 0;
            int kept = 0;
            for (int number = 0; number < soundCount; number++) {
                Sound sound = sounds[number];
                sendOn(sound);
                if (sound.isGone()) {
                    gone |= 1 << number;
                } else {
                    // The two change their rooms, so that no room is lost and the order is kept.
                    sounds[number] = sounds[kept];
                    sounds[kept] = sound;
                    kept++;
                }
            }
            soundCount = kept;
            restVoices();
            beats++;
            return gone;
        }

        private void sendOn(Sound sound) {
            int throwBacksBefore = sound.throwBacks;
            int owner = walls.ownerAt(sound.placeAhead());
            sound.goOn(walls, wind);
            if (sound.throwBacks == throwBacksBefore) {
                return;
            }
            throwBacks++;
            if (owner != NO_TEAM) {
                teams.addPoints(owner, 1);
                wallPoints++;
            }
        }

        private void restVoices() {
            for (int player = 0; player < playerCount; player++) {
                if (players[player].hoarseBeats > 0) {
                    players[player].hoarseBeats--;
                }
            }
        }

        private int catchLoudest(int player) {
            if (!hasPlayer(player)) {
                return 0;
            }
            Player catching = players[player];
            int number = loudestEchoAt(catching.place);
            if (!hasSound(number)) {
                return 0;
            }
            Sound echo = sounds[number];
            boolean isInterception = echo.team != catching.team;
            int points = isInterception ? 2 * echo.loudness : echo.loudness;
            removeSound(number);
            catching.catches++;
            teams.countCatch(catching.team, isInterception);
            teams.addPoints(catching.team, points);
            echoPoints += points;
            return points;
        }

        /** The loudest echo at a place, of several the lowest, or -1. */
        private int loudestEchoAt(int place) {
            int best = -1;
            int most = 0;
            for (int sound = 0; sound < soundCount; sound++) {
                if (sounds[sound].isEchoAt(place) && sounds[sound].loudness > most) {
                    best = sound;
                    most = sounds[sound].loudness;
                }
            }
            return best;
        }

        private void removeSound(int number) {
            Sound removed = sounds[number];
            for (int sound = number; sound + 1 < soundCount; sound++) {
                sounds[sound] = sounds[sound + 1];
            }
            soundCount--;
            sounds[soundCount] = removed;
        }

        private int setWind(int newWind) {
            int before = wind;
            wind = newWind;
            return before;
        }
    }

    /** What was there before each of the latest changes. */
    private static final class History {
        private final Canyon[] kept = new Canyon[MOST_UNDOS];
        /** Where the next one is kept, in place of the oldest one. */
        private int next;
        int count;

        History() {
            for (int index = 0; index < MOST_UNDOS; index++) {
                kept[index] = new Canyon();
            }
        }

        void keep(Canyon canyon) {
            kept[next].take(canyon);
            next = (next + 1) % MOST_UNDOS;
            count = Math.min(count + 1, MOST_UNDOS);
        }

        void giveBack(Canyon canyon) {
            if (count == 0) {
                return;
            }
            next = (next + MOST_UNDOS - 1) % MOST_UNDOS;
            count--;
            canyon.take(kept[next]);
        }

        void forget() {
            count = 0;
        }
    }

    /**
     * The commands, each with its letter and the form of what is behind it in a text: "1" for a digit, "2" for one or
     * two digits, "~" for "+" or "-", any other character for itself.
     */
    private enum Command {
        WALL('w', "2=1"),
        OWN('o', "1@2"),
        PLAYER('p', "1@2"),
        MOVE('m', "1>2"),
        SHOUT('s', "1~2"),
        BEAT('b', ""),
        CATCH('c', "1"),
        WIND('v', "~1");

        private static final Command[] ALL = values();

        private final int letter;
        final String form;

        Command(int letter, String form) {
            this.letter = letter;
            this.form = form;
        }

        /** The command with a letter, or null. */
        static Command withLetter(char letter) {
            for (Command command : ALL) {
                if (command.letter == letter) {
                    return command;
                }
            }
            return null;
        }
    }

    /** A command with its numbers, in the order in which its method and a text name them. */
    private static final class Order {
        Command command = Command.BEAT;
        int first;
        int second;
        boolean isGreater;
        private boolean hasFirst;

        void begin(Command newCommand) {
            command = newCommand;
            first = 0;
            second = 0;
            isGreater = false;
            hasFirst = false;
        }

        void addNumber(int number) {
            if (hasFirst) {
                second = number;
            } else {
                first = number;
                hasFirst = true;
            }
        }
    }

    /** The reason for which something was refused the last time. */
    private static final class Refusal {
        static final int NONE = 0;

        int reason = NONE;
        int detail;
        int command;

        /** Keeps a reason; returns true, so that a test for it can go on with this. */
        boolean tell(int newReason, int newDetail) {
            reason = newReason;
            detail = newDetail;
            command = 0;
            return true;
        }
    }

    /** The text buffer, and how far it is read. */
    private static final class Text {
        static final int NO_FAULT = -1;

        private final char[] characters = new char[LONGEST_TEXT];
        int length;
        private int position;
        int commandsRead;
        int faultPosition = NO_FAULT;

        void add(char character) {
            if (length < LONGEST_TEXT) {
                characters[length] = character;
                length++;
            }
        }

        void clear() {
            length = 0;
        }

        void rewind() {
            position = 0;
            commandsRead = 0;
        }

        void lookForFault(Order order) {
            rewind();
            boolean isRight = readCommand(order);
            for (int count = 1; isRight && position < length && count < LONGEST_TEXT; count++) {
                isRight = readCommand(order);
            }
            faultPosition = isRight ? NO_FAULT : position;
        }

        /** Reads the next command into the order; if there is none, the position is where it fails. */
        boolean readCommand(Order order) {
            if (commandsRead > 0 && !skip(';')) {
                return false;
            }
            Command command = position < length ? Command.withLetter(characters[position]) : null;
            if (command == null) {
                return false;
            }
            position++;
            order.begin(command);
            String form = command.form;
            for (int index = 0; index < form.length(); index++) {
                if (!readPart(form.charAt(index), order)) {
                    return false;
                }
            }
            if (command == Command.WIND && !order.isGreater) {
                order.first = -order.first;
            }
            commandsRead++;
            return true;
        }

        private boolean readPart(char part, Order order) {
            if (part == '1') {
                return readNumber(1, order);
            }
            if (part == '2') {
                return readNumber(2, order);
            }
            return part == '~' ? readSign(order) : skip(part);
        }

        private boolean readSign(Order order) {
            order.isGreater = skip('+');
            return order.isGreater || skip('-');
        }

        private boolean readNumber(int mostDigits, Order order) {
            int number = 0;
            int digits = 0;
            while (digits < mostDigits && isDigitNext()) {
                number = number * 10 + (characters[position] - '0');
                position++;
                digits++;
            }
            order.addNumber(number);
            return digits > 0;
        }

        private boolean isDigitNext() {
            return position < length && isWithin(characters[position], '0', '9');
        }

        private boolean skip(char character) {
            boolean isNext = position < length && characters[position] == character;
            if (isNext) {
                position++;
            }
            return isNext;
        }
    }

    /** The line that was written last. */
    private static final class Line {
        final char[] characters = new char[LONGEST_LINE];
        int length;

        void clear() {
            length = 0;
        }

        void put(char character) {
            if (length < LONGEST_LINE) {
                characters[length] = character;
                length++;
            }
        }

        /** Puts a number from 0 to 99. */
        void putNumber(int number) {
            if (number >= 10) {
                put((char) ('0' + number / 10));
            }
            put((char) ('0' + number % 10));
        }

        /** Puts the letter of a team, or nothing for none. */
        void putTeam(int team) {
            if (team != NO_TEAM) {
                put((char) ('a' + team));
            }
        }
    }
}
