import java.util.NoSuchElementException;

/** The bounds that the terms name, sentence by sentence: canyon, players, sounds, and details of what may be where. */
public final class CanyonBoundsTest {
    private static final int[] NO_PLACES = {-1, 16, 17, Integer.MIN_VALUE, Integer.MAX_VALUE};
    private static final int[] NO_TEAMS = {-1, 3, Integer.MIN_VALUE, Integer.MAX_VALUE};

    public static void main(String[] args) {
        firstAndLastPlace();
        noOtherPlaces();
        placesInARow();
        heights();
        ownersOfWalls();
        firstPoints();
        winds();
        firstAndSeventhPlayer();
        placeWithoutWall();
        eightSounds();
        numbersBecomeLess();
        whatSoundsAre();
        onceOrMore();
        wallWhereSoundsAre();
        heightZero();
        severalAtOnePlace();
        toldAnew();
        moveOverWalls();
        Check.finish();
    }

    /** "The canyon has the places 0 to 15 in a row." */
    private static void firstAndLastPlace() {
        for (int place = 0; place <= 15; place += 15) {
            int at = place;
            EchoCanyon canyon = new EchoCanyon();
            Check.due("a player comes", 0, canyon.player(0, at));
            Check.due("moves away", 0, canyon.move(0, at == 0 ? 3 : 12));
            Check.due("moves back", 0, canyon.move(0, at));
            canyon.move(0, at == 0 ? 1 : 14);
            Check.due("a wall", 0, canyon.wall(at, 9));
            Check.due("its price", 9, canyon.price(2, at));
            Check.due("its best team", 0, canyon.bestTeam(at));
            Check.due("bought", 1, canyon.own(1, at));
            Check.due("its height", 9, canyon.wallOf(at, false));
            Check.due("its team", 1, canyon.wallOf(at, true));
            Check.due("the next one, seen from the other end", at, canyon.nextWall(15 - at, at == 15));
            Check.raises("none behind it", canyon, NoSuchElementException.class, () -> canyon.nextWall(at, at == 15));
            canyon.shout(0, at == 15, 3);
            canyon.beat();
            Check.due("thrown back at the end", 1, canyon.echoesAt(at == 0 ? 1 : 14));
            Check.due("none in the wall", 0, canyon.echoesAt(at));
            Check.due("a point", 2, canyon.teamOf(1, 0));
        }
    }

    /** "The canyon has the places 0 to 15 in a row." */
    private static void noOtherPlaces() {
        EchoCanyon canyon = new EchoCanyon();
        canyon.player(0, 8);
        canyon.wall(0, 1);
        canyon.wall(15, 1);
        for (int place : NO_PLACES) {
            Check.refused("wall", canyon, 1, 0, () -> canyon.wall(place, 1));
            Check.refused("own", canyon, 1, 0, () -> canyon.own(0, place));
            Check.refused("player", canyon, 1, 0, () -> canyon.player(0, place));
            Check.refused("move", canyon, 1, 0, () -> canyon.move(0, place));
            Check.raises("wallOf", canyon, IndexOutOfBoundsException.class, () -> canyon.wallOf(place, false));
            Check.raises("wallOf", canyon, IndexOutOfBoundsException.class, () -> canyon.wallOf(place, true));
            Check.raises("echoesAt", canyon, IndexOutOfBoundsException.class, () -> canyon.echoesAt(place));
            Check.raises("bestTeam", canyon, IndexOutOfBoundsException.class, () -> canyon.bestTeam(place));
            Check.raises("price", canyon, IndexOutOfBoundsException.class, () -> canyon.price(0, place));
            Check.raises("nextWall", canyon, IndexOutOfBoundsException.class, () -> canyon.nextWall(place, true));
            Check.raises("nextWall", canyon, IndexOutOfBoundsException.class, () -> canyon.nextWall(place, false));
        }
    }

    /** "The canyon has the places 0 to 15 in a row." */
    private static void placesInARow() {
        for (int wind = -2; wind <= 2; wind += 4) {
            EchoCanyon canyon = new EchoCanyon();
            canyon.wind(wind);
            canyon.player(0, wind > 0 ? 0 : 15);
            canyon.shout(0, wind > 0, 20);
            for (int beats = 0; beats <= 15; beats++) {
                int place = wind > 0 ? beats : 15 - beats;
                Check.due("told behind " + beats, place, canyon.where(0, beats));
            }
            Check.raises("gone", canyon, NoSuchElementException.class, () -> canyon.where(0, 16));
            for (int beats = 1; beats <= 15; beats++) {
                Check.due("none gone", 0, canyon.beat());
                Check.due("behind " + beats, wind > 0 ? beats : 15 - beats, canyon.soundOf(0, 0));
            }
            Check.due("leaves", 1, canyon.beat());
        }
    }

    /** "At a place is a wall with a height from 1 to 9, or, as at first, none." */
    private static void heights() {
        EchoCanyon canyon = new EchoCanyon();
        for (int height = 0; height <= 9; height++) {
            Check.due("told", height, canyon.wallOf(7, false));
            Check.due("there", height > 0 ? 1 : 0, canyon.account(0));
            if (height < 9) {
                Check.due("before", height, canyon.wall(7, height + 1));
            }
        }
        int[] noHeights = {-1, 10, Integer.MIN_VALUE, Integer.MAX_VALUE};
        for (int height : noHeights) {
            Check.refused("no height", canyon, 1, 0, () -> canyon.wall(7, height));
            Check.refused("no height, no wall", canyon, 1, 0, () -> canyon.wall(8, height));
        }
        Check.due("taken away", 9, canyon.wall(7, 0));
        Check.due("none", 0, canyon.account(0));
    }

    /** "A wall belongs to one of the teams 0 to 2, or to none." */
    private static void ownersOfWalls() {
        EchoCanyon canyon = new EchoCanyon();
        canyon.wall(7, 1);
        Check.due("none", -1, canyon.wallOf(7, true));
        for (int team = 0; team <= 2; team++) {
            canyon.own(team, 7);
            Check.due("team", team, canyon.wallOf(7, true));
            Check.due("walls of the team", 1, canyon.teamOf(team, 1));
            Check.due("walls of the one before", 0, canyon.teamOf((team + 2) % 3, 1));
        }
        for (int team : NO_TEAMS) {
            Check.refused("own", canyon, 1, 0, () -> canyon.own(team, 7));
            Check.refused("player", canyon, 1, 0, () -> canyon.player(team, 5));
            Check.raises("teamOf", canyon, IndexOutOfBoundsException.class, () -> canyon.teamOf(team, 0));
            Check.raises("price", canyon, IndexOutOfBoundsException.class, () -> canyon.price(team, 7));
        }
    }

    /** "Each team has points, at first 10." */
    private static void firstPoints() {
        for (int team = 0; team <= 2; team++) {
            int other = (team + 1) % 3;
            EchoCanyon canyon = new EchoCanyon();
            Check.due("at first", 10, canyon.teamOf(team, 0));
            canyon.wall(2, 5);
            canyon.wall(3, 1);
            canyon.own(other, 2);
            int buyer = team;
            canyon.wall(2, 6);
            Check.refused("12 of 10", canyon, 7, 2, () -> canyon.own(buyer, 2));
            canyon.wall(2, 5);
            Check.due("10 of 10", 0, canyon.own(buyer, 2));
            Check.refused("1 of 0", canyon, 7, 1, () -> canyon.own(buyer, 3));
            Check.due("the other's points", 15, canyon.teamOf(other, 0));
        }
    }

    /** "The wind is from -2 to 2, at first 0; above 0 it blows to greater numbers." */
    private static void winds() {
        EchoCanyon canyon = new EchoCanyon();
        Check.refused("at first 0", canyon, 6, 0, () -> canyon.wind(0));
        int[] winds = {2, -2, 1, -1, 0};
        int before = 0;
        for (int wind : winds) {
            Check.due("before", before, canyon.wind(wind));
            Check.due("told", wind, canyon.account(4));
            before = wind;
        }
        int[] noWinds = {-3, 3, Integer.MIN_VALUE, Integer.MAX_VALUE};
        for (int wind : noWinds) {
            Check.refused("no wind", canyon, 1, 0, () -> canyon.wind(wind));
        }
        canyon.player(0, 8);
        canyon.shout(0, true, 3);
        canyon.shout(0, false, 3);
        canyon.wind(1);
        Check.due("with the wind", 2, canyon.loudIn(0, 1));
        Check.due("against it", 0, canyon.loudIn(1, 1));
    }

    /** "At most 6 players are there, numbered from 0, each of a team and at a place without a wall." */
    private static void firstAndSeventhPlayer() {
        EchoCanyon canyon = new EchoCanyon();
        Check.raises("none", canyon, IndexOutOfBoundsException.class, () -> canyon.playerOf(0, 0));
        for (int player = 0; player < 6; player++) {
            int next = player + 1;
            Check.due("number", player, canyon.player(player % 3, 2 * player));
            Check.due("there", next, canyon.account(1));
            Check.due("team", player % 3, canyon.playerOf(player, 0));
            Check.due("place", 2 * player, canyon.playerOf(player, 1));
            Check.raises("not there yet", canyon, IndexOutOfBoundsException.class, () -> canyon.playerOf(next, 0));
        }
        for (int team = 0; team < 3; team++) {
            Check.due("of the team", 2, canyon.teamOf(team, 2));
            int seventh = team;
            Check.refused("a seventh", canyon, 2, 6, () -> canyon.player(seventh, 1));
        }
        canyon.undo();
        Check.due("the sixth again", 5, canyon.player(2, 1));
    }

    /** "At most 6 players are there, numbered from 0, each of a team and at a place without a wall." */
    private static void placeWithoutWall() {
        EchoCanyon canyon = new EchoCanyon();
        canyon.player(0, 6);
        for (int height = 1; height <= 9; height++) {
            int high = height;
            canyon.wall(7, high);
            Check.refused("comes to a wall", canyon, 4, high, () -> canyon.player(0, 7));
            Check.refused("moves to a wall", canyon, 4, high, () -> canyon.move(0, 7));
            Check.refused("a wall to a player", canyon, 2, 1, () -> canyon.wall(6, high));
        }
        canyon.wall(7, 0);
        Check.due("comes", 1, canyon.player(0, 7));
        Check.due("moves", 0, canyon.move(0, 7));
        Check.due("a wall where the player was", 0, canyon.wall(6, 9));
    }

    /** "At most 8 sounds are in the canyon, numbered from 0 in the order in which they came; when one is gone, the
     * numbers of the later ones become 1 less." */
    private static void eightSounds() {
        EchoCanyon canyon = new EchoCanyon();
        canyon.player(0, 8);
        for (int sound = 0; sound < 8; sound++) {
            int next = sound;
            Check.raises("not there yet", canyon, IndexOutOfBoundsException.class, () -> canyon.soundOf(next, 0));
            Check.due("number", sound, canyon.shout(0, sound % 2 == 0, 1 + sound % 3));
            Check.due("there", sound + 1, canyon.account(2));
        }
        for (int sound = 0; sound < 8; sound++) {
            Check.due("in their order", 1 + sound % 3, canyon.soundOf(sound, 1));
        }
        Check.refused("a ninth", canyon, 2, 8, () -> canyon.shout(0, true, 1));
        canyon.beat();
        Check.due("those of 3 are left", 2, canyon.account(2));
        Check.due("room again", 2, canyon.shout(0, true, 1));
    }

    /** "At most 8 sounds are in the canyon, numbered from 0 in the order in which they came; when one is gone, the
     * numbers of the later ones become 1 less." */
    private static void numbersBecomeLess() {
        for (int number = 0; number < 8; number++) {
            EchoCanyon byBeat = new EchoCanyon();
            byBeat.player(0, 0);
            EchoCanyon byCatch = new EchoCanyon();
            byCatch.player(0, 0);
            byCatch.player(0, 2 * number);
            for (int sound = 0; sound < 8; sound++) {
                byBeat.shout(0, true, sound == number ? 1 : 3);
                byCatch.shout(0, true, 3);
                if (sound < 7) {
                    byBeat.move(0, 2 * sound + 2);
                    byCatch.move(0, 2 * sound + 2);
                }
            }
            Check.due("one gone", 1, byBeat.beat());
            dueAllBut(byBeat, number);
            byCatch.wall(2 * number + 1, 9);
            Check.due("none gone", 0, byCatch.beat());
            Check.due("one echo", 1 << number, byCatch.echoesAt(2 * number));
            byCatch.catchEcho(1);
            dueAllBut(byCatch, number);
        }
    }

    /** Of eight sounds at 1, 3, 5 and so on, one is gone. */
    private static void dueAllBut(EchoCanyon canyon, int gone) {
        Check.due("seven left", 7, canyon.account(2));
        for (int sound = 0; sound < 7; sound++) {
            int before = sound < gone ? sound : sound + 1;
            Check.due("without " + gone + ", " + sound, 2 * before + 1, canyon.soundOf(sound, 0));
        }
        Check.raises("no eighth", canyon, IndexOutOfBoundsException.class, () -> canyon.soundOf(7, 0));
    }

    /** "A sound is at a place, goes to greater or to lesser numbers, has a loudness from 1 to 20, and belongs to the
     * team that shouted." */
    private static void whatSoundsAre() {
        for (int loudness = 1; loudness <= 20; loudness++) {
            EchoCanyon canyon = new EchoCanyon();
            canyon.player(loudness % 3, loudness % 16);
            canyon.shout(0, loudness % 2 == 0, loudness);
            Check.due("place", loudness % 16, canyon.soundOf(0, 0));
            Check.due("loudness", loudness, canyon.soundOf(0, 1));
            Check.due("team", loudness % 3, canyon.soundOf(0, 2));
            Check.due("side", loudness % 2 == 0 ? 1 : 0, canyon.soundOf(0, 4));
            Check.due("sounds of the team", 1, canyon.teamOf(loudness % 3, 3));
        }
        EchoCanyon canyon = new EchoCanyon();
        canyon.player(0, 8);
        int[] noLoudnesses = {0, 21, -1, Integer.MIN_VALUE, Integer.MAX_VALUE};
        for (int loudness : noLoudnesses) {
            Check.refused("no loudness", canyon, 1, 0, () -> canyon.shout(0, true, loudness));
            Check.raises("returns", canyon, IllegalArgumentException.class, () -> canyon.returns(0, true, loudness));
        }
    }

    /** "It is an echo when a wall has thrown it back once or more." */
    private static void onceOrMore() {
        EchoCanyon canyon = new EchoCanyon();
        canyon.player(0, 5);
        canyon.wall(4, 9);
        canyon.wall(6, 9);
        canyon.shout(0, true, 9);
        for (int times = 0; times <= 4; times++) {
            Check.due("times", times, canyon.soundOf(0, 3));
            Check.due("echo", times > 0, canyon.isEcho(0));
            Check.due("echoes", times > 0 ? 1 : 0, canyon.account(3));
            Check.due("echoes there", times > 0 ? 1 : 0, canyon.echoesAt(5));
            Check.due("share", true, canyon.echoShare() == (times > 0 ? 1.0f : 0.0f));
            canyon.beat();
        }
        Check.due("gone", 0, canyon.account(2));
    }

    /** "A wall can be told at a place where sounds are, but not where a player is." */
    private static void wallWhereSoundsAre() {
        EchoCanyon canyon = new EchoCanyon();
        canyon.player(0, 5);
        canyon.shout(0, true, 9);
        Check.refused("a player", canyon, 2, 1, () -> canyon.wall(5, 9));
        canyon.move(0, 4);
        Check.due("a sound alone", 0, canyon.wall(5, 9));
        Check.due("it is there still", 5, canyon.soundOf(0, 0));
        canyon.beat();
        Check.due("and goes on from there", 6, canyon.soundOf(0, 0));
        Check.due("as loud as without the wall", 7, canyon.soundOf(0, 1));
    }

    /** "A wall with the height 0 is none, and belongs to none; one of which another height is told belongs to whom it
     * did." */
    private static void heightZero() {
        EchoCanyon canyon = new EchoCanyon();
        canyon.wall(5, 1);
        canyon.own(0, 5);
        canyon.wall(5, 9);
        Check.due("to whom it did", 0, canyon.wallOf(5, true));
        canyon.wall(5, 1);
        Check.due("to whom it did", 0, canyon.wallOf(5, true));
        canyon.wall(5, 0);
        Check.due("to none", -1, canyon.wallOf(5, true));
        Check.due("no walls", 0, canyon.teamOf(0, 1));
        Check.due("none", 0, canyon.account(0));
        Check.refused("none to buy", canyon, 5, 0, () -> canyon.own(0, 5));
        Check.raises("no price", canyon, NoSuchElementException.class, () -> canyon.price(0, 5));
        Check.raises("no next one", canyon, NoSuchElementException.class, () -> canyon.nextWall(4, true));
        Check.refused("is none already", canyon, 6, 0, () -> canyon.wall(5, 0));
        Check.due("a player can come", 0, canyon.player(0, 5));
    }

    /** "Several players, and several sounds, can be at one place." */
    private static void severalAtOnePlace() {
        EchoCanyon canyon = new EchoCanyon();
        for (int player = 0; player < 6; player++) {
            canyon.player(player % 3, 9);
        }
        Check.refused("six players", canyon, 2, 6, () -> canyon.wall(9, 1));
        for (int sound = 0; sound < 8; sound++) {
            canyon.shout(sound % 6, true, 3);
        }
        canyon.move(0, 8);
        Check.refused("five players", canyon, 2, 5, () -> canyon.wall(9, 1));
        Check.due("eight sounds there", 8, canyon.move(0, 9));
        Check.refused("none is an echo", canyon, 10, 8, () -> canyon.catchEcho(3));
    }

    /** "A wall that was taken away belongs to none when it is told anew." */
    private static void toldAnew() {
        EchoCanyon canyon = new EchoCanyon();
        canyon.wall(5, 4);
        canyon.own(2, 5);
        canyon.wall(5, 0);
        canyon.wall(5, 4);
        Check.due("none's", -1, canyon.wallOf(5, true));
        Check.due("as one of none", 4, canyon.price(2, 5));
        Check.due("bought anew", 2, canyon.own(2, 5));
        Check.due("paid twice", 8, canyon.account(9));
    }

    /** "Players move over walls." */
    private static void moveOverWalls() {
        EchoCanyon canyon = new EchoCanyon();
        canyon.player(0, 5);
        canyon.wall(6, 9);
        canyon.wall(7, 9);
        canyon.wall(4, 1);
        Check.due("over two", 0, canyon.move(0, 8));
        Check.due("and back", 0, canyon.move(0, 5));
        Check.due("over one", 0, canyon.move(0, 3));
        Check.refused("not onto it", canyon, 4, 1, () -> canyon.move(0, 4));
        Check.refused("not farther by that", canyon, 8, 5, () -> canyon.move(0, 8));
    }
}
