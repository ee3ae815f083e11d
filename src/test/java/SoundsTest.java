import java.util.NoSuchElementException;

/** Promises 7, 9, 13, 14, 15, 28, 37 and 38: beats, the wind and what sounds are. */
public final class SoundsTest {
    public static void main(String[] args) {
        promise7losesAndGoes();
        promise7leaves();
        promise7wallByThird();
        promise7pointsOfWalls();
        promise7eachHasItsTurn();
        promise7hoarse();
        promise7betweenWalls();
        promise7refusal();
        promise9wind();
        promise9loss();
        promise13soundOf();
        promise14isEcho();
        promise15echoesAt();
        promise28loudest();
        promise37meanLoudness();
        promise38echoShare();
        Check.finish();
    }

    /** A canyon with one player of team 0 at a place, who has shouted. */
    private static EchoCanyon withShout(int place, boolean isGreater, int loudness) {
        EchoCanyon canyon = new EchoCanyon();
        canyon.player(0, place);
        canyon.shout(0, isGreater, loudness);
        return canyon;
    }

    private static void promise7losesAndGoes() {
        EchoCanyon canyon = withShout(5, true, 7);
        Check.due("none gone", 0, canyon.beat());
        Check.due("place", 6, canyon.soundOf(0, 0));
        Check.due("loudness", 5, canyon.soundOf(0, 1));
        canyon = withShout(5, false, 7);
        canyon.beat();
        Check.due("place", 4, canyon.soundOf(0, 0));
        Check.due("loudness", 5, canyon.soundOf(0, 1));
        Check.beats(canyon, 2);
        Check.due("left with 1", 1, canyon.soundOf(0, 1));
        Check.due("nothing is left", 1, canyon.beat());
        Check.due("gone", 0, canyon.account(2));
        Check.due("beats", 4, canyon.account(5));
        Check.due("2 loses all", 1, withShout(5, true, 2).beat());
        Check.due("1 loses all", 1, withShout(5, true, 1).beat());
        Check.due("3 goes on", 0, withShout(5, true, 3).beat());
    }

    private static void promise7leaves() {
        Check.due("leaves behind 15", 1, withShout(15, true, 20).beat());
        Check.due("leaves ahead of 0", 1, withShout(0, false, 20).beat());
        Check.due("stays at 15", 0, withShout(14, true, 20).beat());
        Check.due("stays at 0", 0, withShout(1, false, 20).beat());
    }

    private static void promise7wallByThird() {
        int[] loudnesses = {16, 17};
        for (int loudness : loudnesses) {
            EchoCanyon canyon = withShout(5, false, loudness);
            canyon.wall(4, 4);
            Check.due("none gone", 0, canyon.beat());
            boolean isThrownBack = loudness == 16;
            Check.due("thrown back", isThrownBack, canyon.isEcho(0));
            Check.due("place", isThrownBack ? 5 : 4, canyon.soundOf(0, 0));
            Check.due("loudness", isThrownBack ? 14 : 11, canyon.soundOf(0, 1));
            Check.due("side", isThrownBack ? 1 : 0, canyon.soundOf(0, 4));
            Check.due("times", isThrownBack ? 1 : 0, canyon.soundOf(0, 3));
            Check.due("account", isThrownBack ? 1 : 0, canyon.account(7));
        }
        EchoCanyon quiet = withShout(5, true, 3);
        quiet.wall(6, 1);
        quiet.beat();
        Check.due("a third is 0", 1, quiet.soundOf(0, 3));
        EchoCanyon there = withShout(5, true, 9);
        there.move(0, 4);
        there.wall(5, 9);
        there.beat();
        Check.due("the wall at its own place does not count", 6, there.soundOf(0, 0));
    }

    private static void promise7pointsOfWalls() {
        EchoCanyon canyon = withShout(5, true, 20);
        canyon.wall(6, 9);
        canyon.wall(4, 9);
        canyon.own(0, 6);
        canyon.own(1, 4);
        canyon.beat();
        Check.due("its own team's wall", 2, canyon.teamOf(0, 0));
        canyon.beat();
        Check.due("another team's wall", 2, canyon.teamOf(1, 0));
        canyon.wall(6, 0);
        canyon.wall(6, 9);
        canyon.beat();
        Check.due("a wall of none", 2, canyon.teamOf(0, 0));
        Check.due("times", 3, canyon.account(7));
        Check.due("even", true, canyon.isEven());
        EchoCanyon over = withShout(5, true, 20);
        over.wall(6, 2);
        over.own(1, 6);
        over.beat();
        Check.due("none for a sound that goes over", 8, over.teamOf(1, 0));
    }

    private static void promise7eachHasItsTurn() {
        EchoCanyon canyon = new EchoCanyon();
        canyon.player(0, 7);
        canyon.player(1, 9);
        canyon.shout(0, true, 1);
        canyon.shout(0, true, 3);
        canyon.shout(0, false, 2);
        canyon.shout(0, false, 2);
        canyon.shout(1, true, 20);
        Check.due("gone", 3, canyon.beat());
        Check.due("left", 2, canyon.account(2));
        Check.due("first left", 8, canyon.soundOf(0, 0));
        Check.due("first left", 1, canyon.soundOf(0, 1));
        Check.due("second left", 10, canyon.soundOf(1, 0));
        Check.due("second left", 18, canyon.soundOf(1, 1));
        Check.due("gone", 1, canyon.beat());
        Check.due("one left", 16, canyon.soundOf(0, 1));
    }

    private static void promise7hoarse() {
        EchoCanyon canyon = new EchoCanyon();
        canyon.player(0, 0);
        canyon.player(0, 8);
        canyon.player(0, 15);
        canyon.shout(1, true, 7);
        canyon.shout(2, false, 20);
        canyon.beat();
        Check.due("never hoarse", 0, canyon.playerOf(0, 2));
        Check.due("a beat less", 0, canyon.playerOf(1, 2));
        Check.due("a beat less", 4, canyon.playerOf(2, 2));
        canyon.beat();
        Check.due("not below 0", 0, canyon.playerOf(1, 2));
        Check.due("a beat less", 3, canyon.playerOf(2, 2));
    }

    private static void promise7betweenWalls() {
        EchoCanyon canyon = withShout(5, true, 20);
        canyon.wall(4, 9);
        canyon.wall(6, 9);
        for (int times = 1; times <= 9; times++) {
            canyon.beat();
            Check.due("stays", 5, canyon.soundOf(0, 0));
            Check.due("times", times, canyon.soundOf(0, 3));
            Check.due("loudness", 20 - 2 * times, canyon.soundOf(0, 1));
        }
        Check.due("gone", 1, canyon.beat());
        Check.due("times stay told", 9, canyon.account(7));
    }

    private static void promise7refusal() {
        EchoCanyon canyon = new EchoCanyon();
        Check.refused("no sounds", canyon, 11, 0, () -> canyon.beat());
        canyon.player(0, 0);
        canyon.shout(0, false, 20);
        canyon.beat();
        Check.refused("no sounds any more", canyon, 11, 0, () -> canyon.beat());
        Check.due("still hoarse", 4, canyon.playerOf(0, 2));
    }

    private static void promise9wind() {
        EchoCanyon canyon = new EchoCanyon();
        Check.refused("already so", canyon, 6, 0, () -> canyon.wind(0));
        Check.due("before", 0, canyon.wind(-2));
        Check.due("before", -2, canyon.wind(2));
        Check.due("account", 2, canyon.account(4));
        Check.refused("already so", canyon, 6, 2, () -> canyon.wind(2));
        Check.refused("range", canyon, 1, 0, () -> canyon.wind(3));
        Check.refused("range", canyon, 1, 0, () -> canyon.wind(-3));
        canyon.wind(-1);
        Check.refused("already so", canyon, 6, -1, () -> canyon.wind(-1));
    }

    private static void promise9loss() {
        int[] greater = {4, 3, 2, 1, 1};
        int[] lesser = {1, 1, 2, 3, 4};
        for (int wind = -2; wind <= 2; wind++) {
            for (int side = 0; side < 2; side++) {
                EchoCanyon canyon = withShout(7, side == 1, 20);
                if (wind != 0) {
                    canyon.wind(wind);
                }
                canyon.beat();
                int loss = side == 1 ? greater[wind + 2] : lesser[wind + 2];
                Check.due("wind " + wind + ", side " + side, 20 - loss, canyon.soundOf(0, 1));
            }
        }
    }

    private static void promise13soundOf() {
        EchoCanyon canyon = new EchoCanyon();
        canyon.player(2, 5);
        canyon.shout(0, true, 3);
        canyon.shout(0, true, 12);
        canyon.wall(6, 9);
        canyon.beat();
        int[] due = {5, 10, 2, 1, 0};
        for (int what = 0; what < 5; what++) {
            Check.due("number " + what, due[what], canyon.soundOf(1, what));
        }
        Check.raises("sound", canyon, IndexOutOfBoundsException.class, () -> canyon.soundOf(2, 0));
        Check.raises("sound", canyon, IndexOutOfBoundsException.class, () -> canyon.soundOf(-1, 0));
        Check.raises("sound ahead", canyon, IndexOutOfBoundsException.class, () -> canyon.soundOf(8, 5));
        Check.raises("what", canyon, IllegalArgumentException.class, () -> canyon.soundOf(0, -1));
        Check.raises("what", canyon, IllegalArgumentException.class, () -> canyon.soundOf(0, 5));
    }

    private static void promise14isEcho() {
        EchoCanyon canyon = withShout(5, true, 20);
        canyon.wall(7, 9);
        Check.due("shouted", false, canyon.isEcho(0));
        canyon.beat();
        Check.due("went", false, canyon.isEcho(0));
        canyon.beat();
        Check.due("thrown back", true, canyon.isEcho(0));
        canyon.beat();
        Check.due("an echo ever after", true, canyon.isEcho(0));
        Check.raises("sound", canyon, IndexOutOfBoundsException.class, () -> canyon.isEcho(1));
        Check.raises("sound", canyon, IndexOutOfBoundsException.class, () -> canyon.isEcho(-1));
    }

    private static void promise15echoesAt() {
        EchoCanyon canyon = withShout(5, true, 3);
        canyon.shout(0, false, 3);
        canyon.shout(0, true, 3);
        canyon.wall(6, 9);
        Check.due("no echoes yet", 0, canyon.echoesAt(5));
        canyon.beat();
        Check.due("the first and the third", 0b101, canyon.echoesAt(5));
        Check.due("no echo", 0, canyon.echoesAt(4));
        for (int sound = 3; sound < 8; sound++) {
            canyon.shout(0, false, 1);
        }
        canyon.beat();
        Check.due("gone", 0, canyon.echoesAt(5));
        Check.raises("place", canyon, IndexOutOfBoundsException.class, () -> canyon.echoesAt(-1));
        Check.raises("place", canyon, IndexOutOfBoundsException.class, () -> canyon.echoesAt(16));
    }

    private static void promise28loudest() {
        EchoCanyon canyon = new EchoCanyon();
        canyon.wall(6, 9);
        canyon.player(0, 5);
        canyon.player(0, 5);
        canyon.player(0, 5);
        canyon.player(0, 5);
        canyon.shout(0, false, 8);
        canyon.shout(1, true, 8);
        canyon.shout(2, true, 8);
        canyon.shout(3, true, 12);
        canyon.beat();
        int[] due = {3, 1, 2, 0};
        for (int place = 0; place < 4; place++) {
            Check.due("place " + place, due[place], canyon.loudest(place));
        }
        Check.raises("place", canyon, NoSuchElementException.class, () -> canyon.loudest(4));
        Check.raises("place", canyon, NoSuchElementException.class, () -> canyon.loudest(-1));
        EchoCanyon falling = withShout(5, true, 20);
        falling.player(1, 5);
        falling.shout(1, true, 10);
        Check.due("the first is the loudest", 0, falling.loudest(0));
        Check.due("then the second", 1, falling.loudest(1));
    }

    private static void promise37meanLoudness() {
        EchoCanyon canyon = new EchoCanyon();
        Check.raises("none", canyon, ArithmeticException.class, () -> canyon.meanLoudness());
        canyon.player(0, 5);
        canyon.shout(0, true, 1);
        Check.due("one", true, canyon.meanLoudness() == 1.0);
        canyon.shout(0, true, 1);
        canyon.shout(0, true, 3);
        Check.due("three", true, canyon.meanLoudness() == 5.0 / 3.0);
    }

    private static void promise38echoShare() {
        EchoCanyon canyon = new EchoCanyon();
        Check.raises("none", canyon, ArithmeticException.class, () -> canyon.echoShare());
        canyon.wall(6, 9);
        canyon.player(0, 5);
        canyon.shout(0, true, 3);
        Check.due("no echoes", true, canyon.echoShare() == 0.0f);
        canyon.shout(0, false, 3);
        canyon.shout(0, false, 3);
        canyon.beat();
        Check.due("a third", true, canyon.echoShare() == 1.0f / 3.0f);
    }
}
