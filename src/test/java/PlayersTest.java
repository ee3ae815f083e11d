/** Promises 4, 5, 6, 8 and 12: players, their moves, shouts and catches. */
public final class PlayersTest {
    public static void main(String[] args) {
        promise4player();
        promise4refusals();
        promise5move();
        promise5refusals();
        promise6shout();
        promise6refusals();
        promise8catchEcho();
        promise8loudestThenLowest();
        promise8numbersClose();
        promise8ofEightSounds();
        promise8refusals();
        promise12playerOf();
        Check.finish();
    }

    private static void promise4player() {
        EchoCanyon canyon = new EchoCanyon();
        Check.due("first", 0, canyon.player(2, 15));
        Check.due("same place", 1, canyon.player(0, 15));
        Check.due("third", 2, canyon.player(1, 0));
        Check.due("team", 2, canyon.playerOf(0, 0));
        Check.due("place", 15, canyon.playerOf(1, 1));
        Check.due("players", 3, canyon.account(1));
    }

    private static void promise4refusals() {
        EchoCanyon canyon = new EchoCanyon();
        canyon.wall(3, 8);
        Check.refused("team", canyon, 1, 0, () -> canyon.player(-1, 0));
        Check.refused("team", canyon, 1, 0, () -> canyon.player(3, 0));
        Check.refused("place", canyon, 1, 0, () -> canyon.player(0, -1));
        Check.refused("place", canyon, 1, 0, () -> canyon.player(0, 16));
        Check.refused("wall", canyon, 4, 8, () -> canyon.player(0, 3));
        for (int player = 0; player < 6; player++) {
            Check.due("number", player, canyon.player(0, 1));
        }
        Check.refused("six", canyon, 2, 6, () -> canyon.player(0, 1));
        Check.refused("six, ahead of the wall", canyon, 2, 6, () -> canyon.player(0, 3));
        Check.refused("range ahead of six", canyon, 1, 0, () -> canyon.player(0, 16));
    }

    private static void promise5move() {
        EchoCanyon canyon = new EchoCanyon();
        canyon.player(0, 5);
        canyon.player(0, 7);
        canyon.wall(6, 9);
        canyon.shout(0, true, 3);
        canyon.shout(0, false, 3);
        canyon.shout(1, true, 3);
        Check.due("over a wall, one sound", 1, canyon.move(0, 7));
        Check.due("no sound", 0, canyon.move(0, 4));
        Check.due("two sounds", 2, canyon.move(0, 5));
        Check.due("three places", 0, canyon.move(0, 2));
        Check.due("place", 2, canyon.playerOf(0, 1));
        Check.due("sounds stay", 5, canyon.soundOf(0, 0));
    }

    private static void promise5refusals() {
        EchoCanyon canyon = new EchoCanyon();
        Check.refused("no players", canyon, 3, 0, () -> canyon.move(0, 20));
        canyon.player(0, 5);
        canyon.player(0, 15);
        canyon.wall(7, 4);
        canyon.wall(9, 4);
        Check.refused("no such player", canyon, 3, 2, () -> canyon.move(2, 5));
        Check.refused("no such player", canyon, 3, 2, () -> canyon.move(-1, 5));
        Check.refused("place", canyon, 1, 0, () -> canyon.move(0, -1));
        Check.refused("place", canyon, 1, 0, () -> canyon.move(1, 16));
        Check.refused("already there", canyon, 6, 5, () -> canyon.move(0, 5));
        Check.refused("too far", canyon, 8, 4, () -> canyon.move(0, 1));
        Check.refused("too far, ahead of the wall", canyon, 8, 4, () -> canyon.move(0, 9));
        Check.refused("too far", canyon, 8, 15, () -> canyon.move(1, 0));
        Check.refused("wall", canyon, 4, 4, () -> canyon.move(0, 7));
    }

    private static void promise6shout() {
        EchoCanyon canyon = new EchoCanyon();
        canyon.player(2, 5);
        Check.due("first", 0, canyon.shout(0, true, 3));
        Check.due("not hoarse by 3", 0, canyon.playerOf(0, 2));
        Check.due("second", 1, canyon.shout(0, false, 11));
        Check.due("hoarse", 2, canyon.playerOf(0, 2));
        Check.due("place", 5, canyon.soundOf(1, 0));
        Check.due("loudness", 11, canyon.soundOf(1, 1));
        Check.due("team", 2, canyon.soundOf(1, 2));
        Check.due("thrown back", 0, canyon.soundOf(1, 3));
        Check.due("greater", 1, canyon.soundOf(0, 4));
        Check.due("lesser", 0, canyon.soundOf(1, 4));
        Check.due("shouts", 2, canyon.playerOf(0, 3));
        Check.due("shouts of all", 2, canyon.account(6));
        Check.beats(canyon, 2);
        Check.due("not hoarse any more", 1, canyon.shout(0, true, 20));
        Check.due("hoarse by the loudest", 5, canyon.playerOf(0, 2));
    }

    private static void promise6refusals() {
        EchoCanyon canyon = new EchoCanyon();
        Check.refused("no players", canyon, 3, 0, () -> canyon.shout(0, true, 0));
        canyon.player(0, 8);
        canyon.player(0, 8);
        Check.refused("no such player", canyon, 3, 2, () -> canyon.shout(2, true, 1));
        Check.refused("no such player", canyon, 3, 2, () -> canyon.shout(-1, true, 1));
        Check.refused("loudness", canyon, 1, 0, () -> canyon.shout(0, true, 0));
        Check.refused("loudness", canyon, 1, 0, () -> canyon.shout(0, false, 21));
        canyon.shout(0, true, 15);
        Check.refused("range ahead of hoarse", canyon, 1, 0, () -> canyon.shout(0, true, 21));
        Check.refused("hoarse", canyon, 9, 3, () -> canyon.shout(0, true, 1));
        canyon.beat();
        Check.refused("hoarse", canyon, 9, 2, () -> canyon.shout(0, true, 1));
        for (int sound = 1; sound < 8; sound++) {
            Check.due("number", sound, canyon.shout(1, false, 1));
        }
        Check.refused("eight sounds", canyon, 2, 8, () -> canyon.shout(1, true, 1));
        Check.refused("hoarse ahead of eight", canyon, 9, 2, () -> canyon.shout(0, true, 1));
    }

    private static void promise8catchEcho() {
        EchoCanyon canyon = new EchoCanyon();
        canyon.wall(6, 9);
        canyon.player(0, 5);
        canyon.player(1, 5);
        canyon.shout(0, true, 12);
        canyon.beat();
        Check.due("own echo", 10, canyon.catchEcho(0));
        Check.due("points", 20, canyon.teamOf(0, 0));
        Check.due("gone", 0, canyon.account(2));
        Check.due("caught", 1, canyon.teamOf(0, 4));
        Check.due("not intercepted", 0, canyon.teamOf(0, 5));
        Check.due("caught by the player", 1, canyon.playerOf(0, 4));
        canyon.shout(1, true, 9);
        canyon.beat();
        Check.due("echo of another team, by a hoarse player", 14, canyon.catchEcho(0));
        Check.due("points", 34, canyon.teamOf(0, 0));
        Check.due("caught", 2, canyon.teamOf(0, 4));
        Check.due("intercepted", 1, canyon.teamOf(0, 5));
        Check.due("the other team has none", 0, canyon.teamOf(1, 4));
        Check.due("points of echoes", 24, canyon.account(8));
        Check.due("even", true, canyon.isEven());
    }

    private static void promise8loudestThenLowest() {
        EchoCanyon canyon = new EchoCanyon();
        canyon.wall(6, 9);
        int[] loudnesses = {4, 7, 9, 9};
        for (int player = 0; player < 4; player++) {
            canyon.player(player % 3, 5);
            canyon.shout(player, true, loudnesses[player]);
        }
        canyon.player(0, 4);
        canyon.shout(4, true, 20);
        canyon.beat();
        Check.due("a louder sound that is no echo", 18, canyon.soundOf(4, 1));
        Check.due("all but that are echoes", 0b1111, canyon.echoesAt(5));
        Check.due("the loudest, the lowest: of team 2", 7, canyon.catchEcho(2));
        Check.due("the next loudest: of team 0", 14, canyon.catchEcho(2));
        Check.due("the next", 5, canyon.catchEcho(1));
        Check.due("the last", 2, canyon.catchEcho(3));
        Check.refused("no echo left, one sound", canyon, 10, 1, () -> canyon.catchEcho(0));
    }

    private static void promise8numbersClose() {
        EchoCanyon canyon = new EchoCanyon();
        canyon.wall(6, 9);
        canyon.player(0, 8);
        canyon.shout(0, true, 3);
        canyon.player(1, 5);
        canyon.shout(1, true, 10);
        canyon.player(2, 12);
        canyon.shout(2, false, 13);
        canyon.beat();
        canyon.catchEcho(1);
        Check.due("sounds", 2, canyon.account(2));
        Check.due("the first keeps its number", 9, canyon.soundOf(0, 0));
        Check.due("the last is one less", 11, canyon.soundOf(1, 0));
        Check.due("the last is one less", 11, canyon.soundOf(1, 1));
        Check.due("a new one behind it", 2, canyon.shout(0, true, 1));
        Check.due("the new one", 1, canyon.soundOf(2, 1));
        Check.due("not thrown back", 0, canyon.soundOf(2, 3));
        Check.due("the one ahead stays as it is", 11, canyon.soundOf(1, 1));
    }

    private static void promise8ofEightSounds() {
        EchoCanyon canyon = new EchoCanyon();
        canyon.wall(6, 9);
        canyon.player(0, 5);
        for (int sound = 0; sound < 8; sound++) {
            canyon.shout(0, true, 3);
        }
        canyon.beat();
        Check.due("eight echoes", 0b11111111, canyon.echoesAt(5));
        Check.due("the eighth place", 7, canyon.loudest(7));
        for (int left = 7; left >= 0; left--) {
            Check.due("as loud as can just be", 1, canyon.catchEcho(0));
            Check.due("left", (1 << left) - 1, canyon.echoesAt(5));
        }
        Check.due("points", 18, canyon.teamOf(0, 0));
    }

    private static void promise8refusals() {
        EchoCanyon canyon = new EchoCanyon();
        Check.refused("no players", canyon, 3, 0, () -> canyon.catchEcho(0));
        canyon.player(0, 5);
        Check.refused("no such player", canyon, 3, 1, () -> canyon.catchEcho(1));
        Check.refused("no such player", canyon, 3, 1, () -> canyon.catchEcho(-1));
        Check.refused("no sounds", canyon, 10, 0, () -> canyon.catchEcho(0));
        canyon.shout(0, true, 3);
        canyon.shout(0, true, 3);
        canyon.player(1, 9);
        canyon.shout(1, true, 3);
        Check.refused("no echo, two sounds there", canyon, 10, 2, () -> canyon.catchEcho(0));
        canyon.wall(10, 9);
        canyon.beat();
        Check.refused("an echo elsewhere", canyon, 10, 0, () -> canyon.catchEcho(0));
    }

    private static void promise12playerOf() {
        EchoCanyon canyon = new EchoCanyon();
        canyon.wall(6, 9);
        canyon.player(1, 3);
        canyon.player(2, 5);
        canyon.shout(1, true, 3);
        canyon.shout(1, true, 17);
        canyon.beat();
        canyon.catchEcho(1);
        int[] due = {2, 5, 3, 2, 1};
        int[] dueOther = {1, 3, 0, 0, 0};
        for (int what = 0; what < 5; what++) {
            Check.due("number " + what, due[what], canyon.playerOf(1, what));
            Check.due("other's number " + what, dueOther[what], canyon.playerOf(0, what));
        }
        Check.raises("player", canyon, IndexOutOfBoundsException.class, () -> canyon.playerOf(2, 0));
        Check.raises("player", canyon, IndexOutOfBoundsException.class, () -> canyon.playerOf(-1, 0));
        Check.raises("player ahead", canyon, IndexOutOfBoundsException.class, () -> canyon.playerOf(6, 9));
        Check.raises("what", canyon, IllegalArgumentException.class, () -> canyon.playerOf(0, -1));
        Check.raises("what", canyon, IllegalArgumentException.class, () -> canyon.playerOf(0, 5));
    }
}
