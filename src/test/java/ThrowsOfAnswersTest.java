import java.util.NoSuchElementException;

/** Each line "Throws" of the calls that only answer: both sides of each bound, and nothing changed by it. */
public final class ThrowsOfAnswersTest {
    private static final Class<IndexOutOfBoundsException> INDEX = IndexOutOfBoundsException.class;
    private static final Class<IllegalArgumentException> ARGUMENT = IllegalArgumentException.class;
    private static final Class<NoSuchElementException> NONE = NoSuchElementException.class;
    private static final Class<ArithmeticException> ARITHMETIC = ArithmeticException.class;

    /** A call with one number that has bounds. */
    private interface Call {
        void on(EchoCanyon canyon, int number);
    }

    private interface Maker extends java.util.function.Supplier<EchoCanyon> {
    }

    public static void main(String[] args) {
        placeOfWallOf();
        teamOfTeamOf();
        whatOfTeamOf();
        playerOfPlayerOf();
        whatOfPlayerOf();
        soundOfSoundOf();
        whatOfSoundOf();
        soundOfIsEcho();
        placeOfEchoesAt();
        soundOfWhere();
        beatsOfWhere();
        goneOfWhere();
        soundOfLoudIn();
        beatsOfLoudIn();
        soundOfGoneIn();
        soundOfGoneInAgain();
        playerOfComes();
        noneComes();
        playerOfComesAgain();
        noneComesAgain();
        playerOfReturns();
        loudnessOfReturns();
        playerOfBestLoudness();
        noneReturns();
        placeOfBestTeam();
        noBestTeam();
        teamOrPlaceOfPrice();
        noWallOfPrice();
        placeOfNextWall();
        noNextWall();
        measureOfRanked();
        placeOfRanked();
        placeOfLoudest();
        whatOfReason();
        noReason();
        soundOfSoundLine();
        indexOfCharacter();
        noMeanLoudness();
        noEchoShare();
        whatOfAccount();
        Check.finish();
    }

    /** The numbers from 0 to most are right for a call, all others are not. */
    private static void bounds(String what, Maker maker, int least, int most, Class<? extends RuntimeException> type,
            Call call) {
        EchoCanyon right = maker.get();
        for (int number = least; number <= most; number++) {
            try {
                call.on(right, number);
            } catch (RuntimeException thrown) {
                Check.fail(what + " of " + number + " throws " + thrown);
            }
        }
        int[] wrong = {least - 1, most + 1, least - 2, most + 2, most + 100, Integer.MIN_VALUE, Integer.MAX_VALUE};
        for (int number : wrong) {
            Check.leavesAlike(what + " of " + number, maker, type, canyon -> call.on(canyon, number));
        }
    }

    /** In a canyon without them, all numbers are wrong. */
    private static void allWrong(String what, Class<? extends RuntimeException> type, Call call) {
        int[] wrong = {0, -1, 1, 7, Integer.MIN_VALUE, Integer.MAX_VALUE};
        for (int number : wrong) {
            Check.leavesAlike(what + " of " + number, Canyons::bare, type, canyon -> call.on(canyon, number));
        }
    }

    /** The numbers of the sounds are right for a call, whether there are none, one, three or eight. */
    private static void soundBounds(String what, Call call) {
        bounds(what, Canyons::played, 0, 2, INDEX, call);
        bounds(what, Canyons::full, 0, 7, INDEX, call);
        bounds(what, ThrowsOfAnswersTest::oneOfAll, 0, 0, INDEX, call);
        allWrong(what, INDEX, call);
        Check.leavesAlike(what, Canyons::quiet, INDEX, canyon -> call.on(canyon, 0));
    }

    /** The numbers of the players are right for a call, whether there are none, one, three or six. */
    private static void playerBounds(String what, Call call) {
        bounds(what, Canyons::full, 0, 5, INDEX, call);
        bounds(what, ThrowsOfAnswersTest::oneOfAll, 0, 0, INDEX, call);
        allWrong(what, INDEX, call);
    }

    private static EchoCanyon oneOfAll() {
        EchoCanyon canyon = new EchoCanyon();
        Check.run(canyon, "w9=9;w7=9;p0@8;s0+20;b");
        return canyon;
    }

    /** 10: "Throws `IndexOutOfBoundsException` if there is no such place" */
    private static void placeOfWallOf() {
        bounds("wallOf", Canyons::played, 0, 15, INDEX, (canyon, place) -> canyon.wallOf(place, false));
        bounds("wallOf", Canyons::played, 0, 15, INDEX, (canyon, place) -> canyon.wallOf(place, true));
    }

    /** 11: "Throws `IndexOutOfBoundsException` if there is no such team" */
    private static void teamOfTeamOf() {
        bounds("teamOf", Canyons::played, 0, 2, INDEX, (canyon, team) -> canyon.teamOf(team, 0));
        Check.leavesAlike("both wrong", Canyons::played, INDEX, canyon -> canyon.teamOf(3, 6));
        Check.leavesAlike("both wrong", Canyons::played, INDEX, canyon -> canyon.teamOf(-1, -1));
    }

    /** 11: "Throws `IllegalArgumentException` if what is not from 0 to 5" */
    private static void whatOfTeamOf() {
        for (int team = 0; team <= 2; team++) {
            int told = team;
            bounds("teamOf", Canyons::played, 0, 5, ARGUMENT, (canyon, what) -> canyon.teamOf(told, what));
        }
    }

    /** 12: "Throws `IndexOutOfBoundsException` if there is no such player" */
    private static void playerOfPlayerOf() {
        playerBounds("playerOf", (canyon, player) -> canyon.playerOf(player, 0));
        Check.leavesAlike("both wrong", Canyons::played, INDEX, canyon -> canyon.playerOf(3, 5));
    }

    /** 12: "Throws `IllegalArgumentException` if what is not from 0 to 4" */
    private static void whatOfPlayerOf() {
        bounds("playerOf", Canyons::played, 0, 4, ARGUMENT, (canyon, what) -> canyon.playerOf(0, what));
        bounds("playerOf", Canyons::played, 0, 4, ARGUMENT, (canyon, what) -> canyon.playerOf(2, what));
    }

    /** 13: "Throws `IndexOutOfBoundsException` if there is no such sound" */
    private static void soundOfSoundOf() {
        soundBounds("soundOf", (canyon, sound) -> canyon.soundOf(sound, 0));
        Check.leavesAlike("both wrong", Canyons::played, INDEX, canyon -> canyon.soundOf(3, 5));
    }

    /** 13: "Throws `IllegalArgumentException` if what is not from 0 to 4" */
    private static void whatOfSoundOf() {
        bounds("soundOf", Canyons::played, 0, 4, ARGUMENT, (canyon, what) -> canyon.soundOf(0, what));
        bounds("soundOf", Canyons::played, 0, 4, ARGUMENT, (canyon, what) -> canyon.soundOf(2, what));
    }

    /** 14: "Throws `IndexOutOfBoundsException` if there is no such sound" */
    private static void soundOfIsEcho() {
        soundBounds("isEcho", (canyon, sound) -> canyon.isEcho(sound));
    }

    /** 15: "Throws `IndexOutOfBoundsException` if there is no such place" */
    private static void placeOfEchoesAt() {
        bounds("echoesAt", Canyons::played, 0, 15, INDEX, (canyon, place) -> canyon.echoesAt(place));
        bounds("echoesAt", Canyons::bare, 0, 15, INDEX, (canyon, place) -> canyon.echoesAt(place));
    }

    /** 16: "Throws `IndexOutOfBoundsException` if there is no such sound" */
    private static void soundOfWhere() {
        soundBounds("where", (canyon, sound) -> canyon.where(sound, 0));
        Check.leavesAlike("both wrong", Canyons::played, INDEX, canyon -> canyon.where(3, 21));
    }

    /** 16: "Throws `IllegalArgumentException` if the beats are not from 0 to 20" */
    private static void beatsOfWhere() {
        bounds("where", Canyons::played, 0, 20, ARGUMENT, (canyon, beats) -> {
            try {
                canyon.where(0, beats);
            } catch (NoSuchElementException gone) {
                Check.due("gone by then", true, beats >= canyon.goneIn(0));
            }
        });
        Check.leavesAlike("gone and wrong", Canyons::played, ARGUMENT, canyon -> canyon.where(0, 21));
    }

    /** 16: "Throws `NoSuchElementException` if it would be gone" */
    private static void goneOfWhere() {
        EchoCanyon canyon = Canyons.played();
        for (int sound = 0; sound < 3; sound++) {
            int told = sound;
            for (int beats = 0; beats <= 20; beats++) {
                int behind = beats;
                if (beats < canyon.goneIn(sound)) {
                    Check.due("a place", true, canyon.where(sound, beats) >= 0);
                } else {
                    Check.leavesAlike("where", Canyons::played, NONE, other -> other.where(told, behind));
                }
            }
        }
    }

    /** 17: "Throws `IndexOutOfBoundsException` if there is no such sound" */
    private static void soundOfLoudIn() {
        soundBounds("loudIn", (canyon, sound) -> canyon.loudIn(sound, 20));
        Check.leavesAlike("both wrong", Canyons::played, INDEX, canyon -> canyon.loudIn(-1, -1));
    }

    /** 17: "Throws `IllegalArgumentException` if the beats are not from 0 to 20" */
    private static void beatsOfLoudIn() {
        for (int sound = 0; sound < 3; sound++) {
            int told = sound;
            bounds("loudIn", Canyons::played, 0, 20, ARGUMENT, (canyon, beats) -> canyon.loudIn(told, beats));
        }
    }

    /** 18: "Throws `IndexOutOfBoundsException` if there is no such sound" */
    private static void soundOfGoneIn() {
        soundBounds("goneIn", (canyon, sound) -> canyon.goneIn(sound));
    }

    /** 19: "Throws `IndexOutOfBoundsException` if there is no such sound" */
    private static void soundOfGoneInAgain() {
        soundBounds("goneInAgain", (canyon, sound) -> canyon.goneInAgain(sound));
    }

    /** 20: "Throws `IndexOutOfBoundsException` if there is no such player" */
    private static void playerOfComes() {
        bounds("comes", ThrowsOfAnswersTest::oneOfAll, 0, 0, INDEX, (canyon, player) -> canyon.comes(player));
        bounds("comes", ThrowsOfAnswersTest::echoForSix, 0, 5, INDEX, (canyon, player) -> canyon.comes(player));
        allWrong("comes", INDEX, (canyon, player) -> canyon.comes(player));
    }

    private static EchoCanyon echoForSix() {
        EchoCanyon canyon = new EchoCanyon();
        Check.run(canyon, "w9=9;p0@8;p1@8;p2@7;p0@6;p1@5;p2@8;s0+20;b");
        return canyon;
    }

    /** 20: "Throws `NoSuchElementException` if none would ever be" */
    private static void noneComes() {
        Check.leavesAlike("no sounds", Canyons::quiet, NONE, canyon -> canyon.comes(0));
        for (int place = 0; place <= 8; place++) {
            EchoCanyon canyon = lastEcho(place);
            if (place >= 6) {
                Check.due("behind beats", 9 - place, canyon.comes(0));
            } else {
                Check.leavesAlike("too far", () -> lastEcho(canyon.playerOf(0, 1)), NONE, other -> other.comes(0));
            }
        }
    }

    /** A player at a place, and a sound that comes back from a wall at 9 as an echo to 8, 7 and 6. */
    private static EchoCanyon lastEcho(int place) {
        EchoCanyon canyon = new EchoCanyon();
        canyon.player(0, place);
        canyon.player(1, 8);
        canyon.wall(9, 9);
        canyon.shout(1, true, 8);
        return canyon;
    }

    /** 21: "Throws `IndexOutOfBoundsException` if there is no such player" */
    private static void playerOfComesAgain() {
        bounds("comesAgain", ThrowsOfAnswersTest::oneOfAll, 0, 0, INDEX,
                (canyon, player) -> canyon.comesAgain(player));
        bounds("comesAgain", ThrowsOfAnswersTest::echoForSix, 0, 5, INDEX,
                (canyon, player) -> canyon.comesAgain(player));
        allWrong("comesAgain", INDEX, (canyon, player) -> canyon.comesAgain(player));
    }

    /** 21: "Throws `NoSuchElementException` if none would ever be" */
    private static void noneComesAgain() {
        Check.leavesAlike("no sounds", Canyons::quiet, NONE, canyon -> canyon.comesAgain(0));
        for (int place = 0; place <= 8; place++) {
            EchoCanyon canyon = lastEcho(place);
            if (place >= 6) {
                Check.due("behind beats", 9 - place, canyon.comesAgain(0));
            } else {
                Check.leavesAlike("too far", () -> lastEcho(canyon.playerOf(0, 1)), NONE,
                        other -> other.comesAgain(0));
            }
        }
    }

    /** 22: "Throws `IndexOutOfBoundsException` if there is no such player" */
    private static void playerOfReturns() {
        playerBounds("returns", (canyon, player) -> canyon.returns(player, true, 20));
        playerBounds("returns", (canyon, player) -> canyon.returns(player, false, 1));
        Check.leavesAlike("both wrong", Canyons::played, INDEX, canyon -> canyon.returns(3, true, 0));
    }

    /** 22: "Throws `IllegalArgumentException` if the loudness is not from 1 to 20" */
    private static void loudnessOfReturns() {
        bounds("returns", Canyons::played, 1, 20, ARGUMENT, (canyon, loudness) -> canyon.returns(0, true, loudness));
        bounds("returns", Canyons::full, 1, 20, ARGUMENT, (canyon, loudness) -> canyon.returns(5, false, loudness));
    }

    /** 23: "Throws `IndexOutOfBoundsException` if there is no such player" */
    private static void playerOfBestLoudness() {
        bounds("bestLoudness", ThrowsOfAnswersTest::echoForSix, 0, 5, INDEX,
                (canyon, player) -> canyon.bestLoudness(player, true));
        bounds("bestLoudness", ThrowsOfAnswersTest::oneOfAll, 0, 0, INDEX,
                (canyon, player) -> canyon.bestLoudness(player, false));
        allWrong("bestLoudness", INDEX, (canyon, player) -> canyon.bestLoudness(player, true));
    }

    /** 23: "Throws `NoSuchElementException` if none would return" */
    private static void noneReturns() {
        Check.leavesAlike("no wall", Canyons::quiet, NONE, canyon -> canyon.bestLoudness(0, true));
        Check.leavesAlike("no wall", Canyons::quiet, NONE, canyon -> canyon.bestLoudness(0, false));
        for (int distance = 1; distance <= 7; distance++) {
            int far = distance;
            // There and back are 2 * distance - 1 beats of 2 each, which 20 outlasts up to a distance of 5.
            if (distance <= 5) {
                EchoCanyon canyon = wallAtDistance(far);
                Check.due("the loudest", 20, canyon.bestLoudness(0, true));
                Check.due("of them", 20 - 2 * (2 * far - 1), canyon.returns(0, true, 20));
            } else {
                Check.leavesAlike("too far", () -> wallAtDistance(far), NONE, canyon -> canyon.bestLoudness(0, true));
                Check.due("none", 0, wallAtDistance(far).returns(0, true, 20));
            }
        }
    }

    private static EchoCanyon wallAtDistance(int distance) {
        EchoCanyon canyon = new EchoCanyon();
        canyon.player(0, 5);
        canyon.wall(5 + distance, 9);
        return canyon;
    }

    /** 24: "Throws `IndexOutOfBoundsException` if there is no such place" */
    private static void placeOfBestTeam() {
        bounds("bestTeam", ThrowsOfAnswersTest::wallsEverywhere, 0, 15, INDEX,
                (canyon, place) -> canyon.bestTeam(place));
        allWrongPlaces("bestTeam", (canyon, place) -> canyon.bestTeam(place));
    }

    private static EchoCanyon wallsEverywhere() {
        EchoCanyon canyon = new EchoCanyon();
        for (int place = 0; place <= 15; place++) {
            canyon.wall(place, 1 + place % 9);
        }
        return canyon;
    }

    private static void allWrongPlaces(String what, Call call) {
        int[] wrong = {-1, 16, Integer.MIN_VALUE, Integer.MAX_VALUE};
        for (int place : wrong) {
            Check.leavesAlike(what + " of " + place, Canyons::bare, INDEX, canyon -> call.on(canyon, place));
        }
    }

    /** 24: "Throws `NoSuchElementException` if there is no wall, or no such team" */
    private static void noBestTeam() {
        for (int place = 0; place <= 15; place++) {
            int at = place;
            Check.leavesAlike("no wall", Canyons::bare, NONE, canyon -> canyon.bestTeam(at));
        }
        Check.leavesAlike("18 of 10", Canyons::played, NONE, canyon -> canyon.bestTeam(9));
        EchoCanyon canyon = Canyons.played();
        Check.due("8 of 10", 0, canyon.bestTeam(5));
        canyon.wall(5, 5);
        Check.due("10 of 10", 0, canyon.bestTeam(5));
        canyon.wall(5, 6);
        Check.raises("12 of 10", canyon, NONE, () -> canyon.bestTeam(5));
    }

    /** 25: "Throws `IndexOutOfBoundsException` if there is no such team or place" */
    private static void teamOrPlaceOfPrice() {
        bounds("price, team", Canyons::played, 0, 2, INDEX, (canyon, team) -> canyon.price(team, 9));
        bounds("price, place", ThrowsOfAnswersTest::wallsEverywhere, 0, 15, INDEX,
                (canyon, place) -> canyon.price(2, place));
        Check.leavesAlike("no such team, no wall", Canyons::played, INDEX, canyon -> canyon.price(3, 0));
        Check.leavesAlike("neither", Canyons::played, INDEX, canyon -> canyon.price(-1, 16));
    }

    /** 25: "Throws `NoSuchElementException` if there is no wall" */
    private static void noWallOfPrice() {
        for (int place = 0; place <= 15; place++) {
            int at = place;
            Check.leavesAlike("no wall", Canyons::quiet, NONE, canyon -> canyon.price(at % 3, at));
            Check.due("a wall", 1 + place % 9, wallsEverywhere().price(place % 3, place));
        }
    }

    /** 26: "Throws `IndexOutOfBoundsException` if there is no such place" */
    private static void placeOfNextWall() {
        allWrongPlaces("nextWall", (canyon, place) -> canyon.nextWall(place, true));
        allWrongPlaces("nextWall", (canyon, place) -> canyon.nextWall(place, false));
        for (int place = 0; place <= 15; place++) {
            EchoCanyon canyon = wallsEverywhere();
            if (place < 15) {
                Check.due("greater", place + 1, canyon.nextWall(place, true));
            }
            if (place > 0) {
                Check.due("lesser", place - 1, canyon.nextWall(place, false));
            }
        }
        Check.leavesAlike("behind the last", ThrowsOfAnswersTest::wallsEverywhere, INDEX,
                canyon -> canyon.nextWall(16, false));
        Check.leavesAlike("ahead of the first", ThrowsOfAnswersTest::wallsEverywhere, INDEX,
                canyon -> canyon.nextWall(-1, true));
    }

    /** 26: "Throws `NoSuchElementException` if there is none" */
    private static void noNextWall() {
        Check.leavesAlike("none", ThrowsOfAnswersTest::wallsEverywhere, NONE, canyon -> canyon.nextWall(15, true));
        Check.leavesAlike("none", ThrowsOfAnswersTest::wallsEverywhere, NONE, canyon -> canyon.nextWall(0, false));
        for (int place = 0; place <= 15; place++) {
            int at = place;
            Check.leavesAlike("none", Canyons::bare, NONE, canyon -> canyon.nextWall(at, at % 2 == 0));
            EchoCanyon alone = new EchoCanyon();
            alone.wall(at, 1);
            Check.raises("that place left out", alone, NONE, () -> alone.nextWall(at, true));
            Check.raises("that place left out", alone, NONE, () -> alone.nextWall(at, false));
        }
    }

    /** 27: "Throws `IllegalArgumentException` if there is no such measure" */
    private static void measureOfRanked() {
        bounds("ranked", Canyons::played, 0, 3, ARGUMENT, (canyon, measure) -> canyon.ranked(measure, 0));
        Check.leavesAlike("both wrong", Canyons::played, ARGUMENT, canyon -> canyon.ranked(4, 3));
        Check.leavesAlike("both wrong", Canyons::played, ARGUMENT, canyon -> canyon.ranked(-1, -1));
    }

    /** 27: "Throws `NoSuchElementException` if there is no such place" */
    private static void placeOfRanked() {
        for (int measure = 0; measure <= 3; measure++) {
            int told = measure;
            bounds("ranked", Canyons::played, 0, 2, NONE, (canyon, place) -> canyon.ranked(told, place));
            bounds("ranked", Canyons::bare, 0, 2, NONE, (canyon, place) -> {
                int team = canyon.ranked(told, place);
                Check.due("all are alike: the lowest first", place, team);
            });
        }
    }

    /** 28: "Throws `NoSuchElementException` if there is no such place" */
    private static void placeOfLoudest() {
        bounds("loudest", Canyons::played, 0, 2, NONE, (canyon, place) -> canyon.loudest(place));
        bounds("loudest", Canyons::full, 0, 7, NONE, (canyon, place) -> canyon.loudest(place));
        bounds("loudest", ThrowsOfAnswersTest::oneOfAll, 0, 0, NONE, (canyon, place) -> canyon.loudest(place));
        allWrong("loudest", NONE, (canyon, place) -> canyon.loudest(place));
    }

    /** 33: "Throws `IllegalArgumentException` if what is not from 0 to 2" */
    private static void whatOfReason() {
        bounds("reason", Canyons::played, 0, 2, ARGUMENT, (canyon, what) -> canyon.reason(what));
        Check.leavesAlike("none kept", Canyons::bare, ARGUMENT, canyon -> canyon.reason(3));
        Check.leavesAlike("none kept", Canyons::bare, ARGUMENT, canyon -> canyon.reason(-1));
    }

    /** 33: "Throws `NoSuchElementException` if nothing was refused" */
    private static void noReason() {
        for (int what = 0; what <= 2; what++) {
            int told = what;
            Check.leavesAlike("new", Canyons::bare, NONE, canyon -> canyon.reason(told));
            Check.leavesAlike("all went well", Canyons::quiet, NONE, canyon -> canyon.reason(told));
        }
        EchoCanyon canyon = Canyons.quiet();
        Check.raises("no refusal but an exception", canyon, INDEX, () -> canyon.wallOf(16, true));
        Check.raisesOnly("no refusal but a fault", ARGUMENT, () -> Check.run(canyon, "?"));
        Check.raises("nothing was refused", canyon, NONE, () -> canyon.reason(0));
        Check.raisesOnly("refused", UnsupportedOperationException.class, () -> canyon.beat());
        Check.due("reason", 11, canyon.reason(0));
    }

    /** 35: "Throws `IndexOutOfBoundsException` if there is no such sound" */
    private static void soundOfSoundLine() {
        soundBounds("soundLine", (canyon, sound) -> canyon.soundLine(sound));
    }

    /** 36: "Throws `IndexOutOfBoundsException` if there is no such index" */
    private static void indexOfCharacter() {
        allWrong("character", INDEX, (canyon, index) -> canyon.character(index));
        characterBounds(Canyons::played, "8<18a!");
        characterBounds(ThrowsOfAnswersTest::shortLine, "................");
        characterBounds(ThrowsOfAnswersTest::longestLine, "1a1b1c1a1b1c1a1b1c1a1b1c1a1b1c1a");
        characterBounds(ThrowsOfAnswersTest::lineBehindLonger, "0<1b");
    }

    private static void characterBounds(Maker maker, String line) {
        bounds("character", maker, 0, line.length() - 1, INDEX, (canyon, index) -> {
            char written = canyon.character(index);
            Check.due("character " + index, line.charAt(index), written);
        });
    }

    private static EchoCanyon shortLine() {
        EchoCanyon canyon = new EchoCanyon();
        canyon.line();
        return canyon;
    }

    /** Sixteen walls, each of a team. */
    private static EchoCanyon longestLine() {
        EchoCanyon canyon = new EchoCanyon();
        for (int place = 0; place <= 15; place++) {
            canyon.wall(place, 1);
            canyon.own(place % 3, place);
        }
        canyon.line();
        return canyon;
    }

    /** A line of a sound that is shorter than the line before. */
    private static EchoCanyon lineBehindLonger() {
        EchoCanyon canyon = new EchoCanyon();
        Check.run(canyon, "p1@0;s0-1");
        canyon.line();
        canyon.soundLine(0);
        return canyon;
    }

    /** 37: "Throws `ArithmeticException` if there are none" */
    private static void noMeanLoudness() {
        Check.leavesAlike("none", Canyons::bare, ARITHMETIC, canyon -> canyon.meanLoudness());
        Check.leavesAlike("none any more", Canyons::quiet, ARITHMETIC, canyon -> canyon.meanLoudness());
        EchoCanyon canyon = Canyons.quiet();
        int sum = 0;
        for (int sound = 1; sound <= 8; sound++) {
            canyon.shout(0, true, 1 + sound % 3);
            sum += 1 + sound % 3;
            Check.due("mean of " + sound, true, canyon.meanLoudness() == (double) sum / (double) sound);
        }
    }

    /** 38: "Throws `ArithmeticException` if there are none" */
    private static void noEchoShare() {
        Check.leavesAlike("none", Canyons::bare, ARITHMETIC, canyon -> canyon.echoShare());
        Check.leavesAlike("none any more", Canyons::quiet, ARITHMETIC, canyon -> canyon.echoShare());
        for (int sounds = 1; sounds <= 8; sounds++) {
            for (int echoes = 0; echoes <= sounds; echoes++) {
                EchoCanyon canyon = Canyons.quiet();
                canyon.wall(9, 9);
                for (int sound = 0; sound < sounds; sound++) {
                    canyon.shout(0, sound < echoes, 3);
                }
                canyon.beat();
                Check.due("share", true, canyon.echoShare() == (float) echoes / (float) sounds);
            }
        }
    }

    /** 39: "Throws `IllegalArgumentException` if what is not from 0 to 11" */
    private static void whatOfAccount() {
        bounds("account", Canyons::played, 0, 11, ARGUMENT, (canyon, what) -> canyon.account(what));
        bounds("account", Canyons::bare, 0, 11, ARGUMENT, (canyon, what) -> {
            int account = canyon.account(what);
            Check.due("of a new canyon", 0, account);
        });
    }
}
