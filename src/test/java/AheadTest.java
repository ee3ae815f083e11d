import java.util.NoSuchElementException;

/** Promises 16 to 23: what is told ahead. */
public final class AheadTest {
    public static void main(String[] args) {
        promise16where();
        promise17loudIn();
        promise18and19goneIn();
        promise19withOthersGone();
        promise20and21comes();
        promise20and21refusals();
        promise22returns();
        promise23bestLoudness();
        Check.finish();
    }

    /** Team 0's player at 4 has shouted at 20 to greater numbers, against a wall at 8. */
    private static EchoCanyon againstWall() {
        EchoCanyon canyon = new EchoCanyon();
        canyon.wall(8, 9);
        canyon.player(0, 4);
        canyon.shout(0, true, 20);
        return canyon;
    }

    private static void promise16where() {
        EchoCanyon canyon = againstWall();
        int[] places = {4, 5, 6, 7, 7, 6, 5, 4, 3, 2};
        for (int beats = 0; beats < places.length; beats++) {
            Check.due("behind " + beats, places[beats], canyon.where(0, beats));
        }
        Check.raises("gone", canyon, NoSuchElementException.class, () -> canyon.where(0, 10));
        Check.raises("gone", canyon, NoSuchElementException.class, () -> canyon.where(0, 20));
        Check.raises("beats", canyon, IllegalArgumentException.class, () -> canyon.where(0, 21));
        Check.raises("beats", canyon, IllegalArgumentException.class, () -> canyon.where(0, -1));
        Check.raises("sound", canyon, IndexOutOfBoundsException.class, () -> canyon.where(1, 21));
        Check.raises("sound", canyon, IndexOutOfBoundsException.class, () -> canyon.where(-1, 0));
        Check.due("no points by telling ahead", 0, canyon.account(7));
        Check.due("the sound stays", 4, canyon.soundOf(0, 0));
    }

    private static void promise17loudIn() {
        EchoCanyon canyon = againstWall();
        int[] loudnesses = {20, 18, 16, 14, 12, 10, 8, 6, 4, 2, 0, 0};
        for (int beats = 0; beats < loudnesses.length; beats++) {
            Check.due("behind " + beats, loudnesses[beats], canyon.loudIn(0, beats));
        }
        Check.due("behind 20", 0, canyon.loudIn(0, 20));
        Check.raises("beats", canyon, IllegalArgumentException.class, () -> canyon.loudIn(0, 21));
        Check.raises("beats", canyon, IllegalArgumentException.class, () -> canyon.loudIn(0, -1));
        Check.raises("sound", canyon, IndexOutOfBoundsException.class, () -> canyon.loudIn(1, -1));
        Check.raises("sound", canyon, IndexOutOfBoundsException.class, () -> canyon.loudIn(-1, 0));
        canyon.wall(5, 3);
        Check.due("over a wall", 15, canyon.loudIn(0, 1));
        canyon.player(0, 13);
        canyon.shout(1, true, 20);
        Check.due("at the edge", 16, canyon.loudIn(1, 2));
        Check.due("left the canyon", 0, canyon.loudIn(1, 3));
    }

    private static void promise18and19goneIn() {
        EchoCanyon canyon = againstWall();
        dueGone(canyon, 0, 10);
        canyon.wind(2);
        dueGone(canyon, 0, 8);
        canyon.player(0, 15);
        canyon.shout(1, true, 3);
        dueGone(canyon, 1, 1);
        canyon.shout(1, false, 1);
        dueGone(canyon, 2, 1);
        EchoCanyon still = new EchoCanyon();
        still.player(0, 0);
        still.wind(2);
        still.shout(0, true, 20);
        dueGone(still, 0, 16);
        still.wall(15, 9);
        dueGone(still, 0, 17);
        Check.raises("sound", canyon, IndexOutOfBoundsException.class, () -> canyon.goneIn(3));
        Check.raises("sound", canyon, IndexOutOfBoundsException.class, () -> canyon.goneIn(-1));
        Check.raises("sound", canyon, IndexOutOfBoundsException.class, () -> canyon.goneInAgain(3));
        Check.raises("sound", canyon, IndexOutOfBoundsException.class, () -> canyon.goneInAgain(-1));
    }

    private static void dueGone(EchoCanyon canyon, int sound, int beats) {
        String before = Check.stateOf(canyon);
        Check.due("gone in", beats, canyon.goneIn(sound));
        Check.due("gone in again", beats, canyon.goneInAgain(sound));
        Check.due("state", before, Check.stateOf(canyon));
    }

    private static void promise19withOthersGone() {
        EchoCanyon canyon = new EchoCanyon();
        canyon.player(0, 8);
        canyon.player(1, 8);
        canyon.shout(0, true, 1);
        canyon.shout(0, true, 3);
        canyon.shout(0, false, 1);
        canyon.shout(0, false, 9);
        canyon.shout(1, true, 7);
        dueGone(canyon, 0, 1);
        dueGone(canyon, 1, 2);
        dueGone(canyon, 2, 1);
        dueGone(canyon, 3, 5);
        dueGone(canyon, 4, 4);
    }

    private static void promise20and21comes() {
        EchoCanyon canyon = againstWall();
        dueComes(canyon, 0, 7);
        canyon.player(1, 7);
        dueComes(canyon, 1, 4);
        canyon.player(1, 2);
        dueComes(canyon, 2, 9);
        canyon.player(2, 7);
        canyon.shout(3, true, 9);
        dueComes(canyon, 1, 1);
        dueComes(canyon, 0, 4);
        canyon.beat();
        dueComes(canyon, 1, 0);
        canyon.catchEcho(1);
        dueComes(canyon, 1, 3);
    }

    private static void dueComes(EchoCanyon canyon, int player, int beats) {
        String before = Check.stateOf(canyon);
        Check.due("comes", beats, canyon.comes(player));
        Check.due("comes again", beats, canyon.comesAgain(player));
        Check.due("state", before, Check.stateOf(canyon));
    }

    private static void promise20and21refusals() {
        EchoCanyon canyon = againstWall();
        canyon.player(0, 1);
        canyon.player(0, 9);
        Check.raises("too far", canyon, NoSuchElementException.class, () -> canyon.comes(1));
        Check.raises("too far", canyon, NoSuchElementException.class, () -> canyon.comesAgain(1));
        Check.raises("behind the wall", canyon, NoSuchElementException.class, () -> canyon.comes(2));
        Check.raises("behind the wall", canyon, NoSuchElementException.class, () -> canyon.comesAgain(2));
        Check.raises("player", canyon, IndexOutOfBoundsException.class, () -> canyon.comes(3));
        Check.raises("player", canyon, IndexOutOfBoundsException.class, () -> canyon.comes(-1));
        Check.raises("player", canyon, IndexOutOfBoundsException.class, () -> canyon.comesAgain(3));
        Check.raises("player", canyon, IndexOutOfBoundsException.class, () -> canyon.comesAgain(-1));
        EchoCanyon quiet = new EchoCanyon();
        quiet.player(0, 5);
        Check.raises("no sounds", quiet, NoSuchElementException.class, () -> quiet.comes(0));
        Check.raises("no sounds", quiet, NoSuchElementException.class, () -> quiet.comesAgain(0));
        quiet.shout(0, true, 20);
        Check.raises("no walls", quiet, NoSuchElementException.class, () -> quiet.comes(0));
        Check.raises("no walls", quiet, NoSuchElementException.class, () -> quiet.comesAgain(0));
    }

    private static void promise22returns() {
        EchoCanyon canyon = againstWall();
        String before = Check.stateOf(canyon);
        Check.due("the loudest, of a hoarse player", 6, canyon.returns(0, true, 20));
        Check.due("15", 1, canyon.returns(0, true, 15));
        Check.due("14 is gone by then", 0, canyon.returns(0, true, 14));
        Check.due("no wall there", 0, canyon.returns(0, false, 20));
        Check.due("state", before, Check.stateOf(canyon));
        canyon.wall(5, 1);
        Check.due("thrown back at once", 4, canyon.returns(0, true, 6));
        Check.due("over the lower wall, and over it again", 4, canyon.returns(0, true, 20));
        Check.raises("player", canyon, IndexOutOfBoundsException.class, () -> canyon.returns(1, true, 0));
        Check.raises("player", canyon, IndexOutOfBoundsException.class, () -> canyon.returns(-1, true, 1));
        Check.raises("loudness", canyon, IllegalArgumentException.class, () -> canyon.returns(0, true, 0));
        Check.raises("loudness", canyon, IllegalArgumentException.class, () -> canyon.returns(0, true, 21));
    }

    private static void promise23bestLoudness() {
        EchoCanyon canyon = new EchoCanyon();
        canyon.wall(6, 5);
        canyon.player(0, 5);
        Check.due("19 loses 2, a third of 17 is 5", 19, canyon.bestLoudness(0, true));
        Check.due("it returns", 17, canyon.returns(0, true, 19));
        Check.due("20 goes over", 0, canyon.returns(0, true, 20));
        Check.raises("none returns", canyon, NoSuchElementException.class, () -> canyon.bestLoudness(0, false));
        Check.raises("player", canyon, IndexOutOfBoundsException.class, () -> canyon.bestLoudness(1, true));
        Check.raises("player", canyon, IndexOutOfBoundsException.class, () -> canyon.bestLoudness(-1, true));
        canyon.wall(6, 9);
        Check.due("the loudest of all", 20, canyon.bestLoudness(0, true));
        canyon.wall(6, 0);
        canyon.wall(12, 9);
        canyon.wind(-1);
        Check.raises("too far for all", canyon, NoSuchElementException.class, () -> canyon.bestLoudness(0, true));
        canyon.wall(12, 0);
        canyon.wall(10, 9);
        Check.due("just one returns", 20, canyon.bestLoudness(0, true));
        Check.due("just so", 1, canyon.returns(0, true, 20));
        bestOfSeveral();
    }

    /** 13 is thrown back by the first wall, 20 by the second: both return with 11. */
    private static void bestOfSeveral() {
        EchoCanyon canyon = new EchoCanyon();
        canyon.player(0, 5);
        canyon.wall(6, 3);
        canyon.wall(7, 9);
        Check.due("13", 11, canyon.returns(0, true, 13));
        Check.due("20", 11, canyon.returns(0, true, 20));
        Check.due("of several the least", 13, canyon.bestLoudness(0, true));
    }
}
