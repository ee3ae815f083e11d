import java.util.NoSuchElementException;

/** Promises 1, 2, 3, 10, 24, 25 and 26: a new canyon, walls and whose they are. */
public final class WallsTest {
    public static void main(String[] args) {
        promise1newObject();
        promise2wall();
        promise2refusals();
        promise2keepsOwner();
        promise3own();
        promise3refusals();
        promise10wallOf();
        promise24bestTeam();
        promise25price();
        promise26nextWall();
        Check.finish();
    }

    private static void promise1newObject() {
        EchoCanyon canyon = new EchoCanyon();
        for (int place = 0; place < 16; place++) {
            Check.due("height", 0, canyon.wallOf(place, false));
            Check.due("team", -1, canyon.wallOf(place, true));
            Check.due("echoes", 0, canyon.echoesAt(place));
        }
        for (int team = 0; team < 3; team++) {
            Check.due("points", 10, canyon.teamOf(team, 0));
            for (int what = 1; what < 6; what++) {
                Check.due("number of a team", 0, canyon.teamOf(team, what));
            }
        }
        for (int what = 0; what < 12; what++) {
            Check.due("account", 0, canyon.account(what));
        }
        Check.due("fault", -1, canyon.faultPosition());
        Check.due("line", "", Check.lineOf(canyon));
        Check.due("reason", "none", Check.reasonOf(canyon));
        Check.due("even", true, canyon.isEven());
    }

    private static void promise2wall() {
        EchoCanyon canyon = new EchoCanyon();
        Check.due("first", 0, canyon.wall(0, 1));
        Check.due("last place, highest", 0, canyon.wall(15, 9));
        Check.due("other height", 1, canyon.wall(0, 7));
        Check.due("taken away", 7, canyon.wall(0, 0));
        Check.due("height", 0, canyon.wallOf(0, false));
        Check.due("height", 9, canyon.wallOf(15, false));
        canyon.player(0, 4);
        canyon.shout(0, true, 9);
        canyon.move(0, 3);
        Check.due("where a sound is", 0, canyon.wall(4, 2));
        Check.due("the sound stays", 4, canyon.soundOf(0, 0));
    }

    private static void promise2refusals() {
        EchoCanyon canyon = new EchoCanyon();
        Check.refused("place", canyon, 1, 0, () -> canyon.wall(-1, 1));
        Check.refused("place", canyon, 1, 0, () -> canyon.wall(16, 1));
        Check.refused("place", canyon, 1, 0, () -> canyon.wall(Integer.MAX_VALUE, 1));
        Check.refused("height", canyon, 1, 0, () -> canyon.wall(0, -1));
        Check.refused("height", canyon, 1, 0, () -> canyon.wall(0, 10));
        Check.refused("already none", canyon, 6, 0, () -> canyon.wall(0, 0));
        canyon.wall(3, 5);
        Check.refused("already so", canyon, 6, 5, () -> canyon.wall(3, 5));
        canyon.player(0, 4);
        Check.refused("a player", canyon, 2, 1, () -> canyon.wall(4, 5));
        canyon.player(1, 4);
        canyon.player(1, 6);
        Check.refused("two players", canyon, 2, 2, () -> canyon.wall(4, 1));
        Check.refused("none is so already", canyon, 6, 0, () -> canyon.wall(4, 0));
        Check.refused("range ahead of all", canyon, 1, 0, () -> canyon.wall(4, 10));
    }

    private static void promise2keepsOwner() {
        EchoCanyon canyon = new EchoCanyon();
        canyon.wall(5, 3);
        canyon.own(2, 5);
        canyon.wall(5, 8);
        Check.due("other height, same team", 2, canyon.wallOf(5, true));
        canyon.wall(5, 0);
        Check.due("taken away", -1, canyon.wallOf(5, true));
        canyon.wall(5, 3);
        Check.due("told anew", -1, canyon.wallOf(5, true));
    }

    private static void promise3own() {
        EchoCanyon canyon = new EchoCanyon();
        canyon.wall(5, 4);
        Check.due("of none", 6, canyon.own(0, 5));
        Check.due("paid to none", 4, canyon.account(9));
        Check.due("team", 0, canyon.wallOf(5, true));
        Check.due("of another team", 2, canyon.own(1, 5));
        Check.due("which gets them", 14, canyon.teamOf(0, 0));
        Check.due("not paid to none", 4, canyon.account(9));
        Check.due("team", 1, canyon.wallOf(5, true));
        canyon.wall(6, 2);
        Check.due("all points", 0, canyon.own(1, 6));
        Check.due("even", true, canyon.isEven());
    }

    private static void promise3refusals() {
        EchoCanyon canyon = new EchoCanyon();
        canyon.wall(5, 6);
        Check.refused("team", canyon, 1, 0, () -> canyon.own(-1, 5));
        Check.refused("team", canyon, 1, 0, () -> canyon.own(3, 5));
        Check.refused("place", canyon, 1, 0, () -> canyon.own(0, -1));
        Check.refused("place", canyon, 1, 0, () -> canyon.own(0, 16));
        Check.refused("no wall", canyon, 5, 0, () -> canyon.own(0, 6));
        canyon.own(2, 5);
        Check.refused("already so", canyon, 6, 2, () -> canyon.own(2, 5));
        Check.refused("too few points", canyon, 7, 2, () -> canyon.own(1, 5));
        canyon.wall(6, 5);
        Check.refused("too few for one of none", canyon, 7, 1, () -> canyon.own(2, 6));
    }

    private static void promise10wallOf() {
        EchoCanyon canyon = new EchoCanyon();
        canyon.wall(0, 9);
        canyon.wall(15, 2);
        canyon.own(1, 15);
        Check.due("height", 9, canyon.wallOf(0, false));
        Check.due("of none", -1, canyon.wallOf(0, true));
        Check.due("height", 2, canyon.wallOf(15, false));
        Check.due("team", 1, canyon.wallOf(15, true));
        Check.raises("place", canyon, IndexOutOfBoundsException.class, () -> canyon.wallOf(-1, false));
        Check.raises("place", canyon, IndexOutOfBoundsException.class, () -> canyon.wallOf(16, true));
    }

    private static void promise24bestTeam() {
        EchoCanyon canyon = new EchoCanyon();
        Check.raises("no wall", canyon, NoSuchElementException.class, () -> canyon.bestTeam(5));
        canyon.wall(5, 5);
        Check.due("of several the lowest", 0, canyon.bestTeam(5));
        canyon.own(0, 5);
        Check.due("not its own, just enough", 1, canyon.bestTeam(5));
        canyon.wall(6, 1);
        canyon.own(1, 6);
        Check.due("team 1 has too few", 2, canyon.bestTeam(5));
        Check.due("the most left", 2, canyon.bestTeam(6));
        canyon.wall(7, 9);
        canyon.own(2, 7);
        Check.raises("too few all", canyon, NoSuchElementException.class, () -> canyon.bestTeam(5));
        Check.raises("place", canyon, IndexOutOfBoundsException.class, () -> canyon.bestTeam(-1));
        Check.raises("place", canyon, IndexOutOfBoundsException.class, () -> canyon.bestTeam(16));
    }

    private static void promise25price() {
        EchoCanyon canyon = new EchoCanyon();
        canyon.wall(5, 7);
        Check.due("of none", 7, canyon.price(0, 5));
        canyon.own(0, 5);
        Check.due("its own", 0, canyon.price(0, 5));
        Check.due("of another", 14, canyon.price(1, 5));
        Check.raises("no wall", canyon, NoSuchElementException.class, () -> canyon.price(1, 6));
        Check.raises("team", canyon, IndexOutOfBoundsException.class, () -> canyon.price(-1, 5));
        Check.raises("team", canyon, IndexOutOfBoundsException.class, () -> canyon.price(3, 6));
        Check.raises("place", canyon, IndexOutOfBoundsException.class, () -> canyon.price(0, -1));
        Check.raises("place", canyon, IndexOutOfBoundsException.class, () -> canyon.price(0, 16));
    }

    private static void promise26nextWall() {
        EchoCanyon canyon = new EchoCanyon();
        canyon.wall(0, 1);
        canyon.wall(6, 1);
        canyon.wall(15, 1);
        Check.due("greater", 6, canyon.nextWall(1, true));
        Check.due("that place left out", 15, canyon.nextWall(6, true));
        Check.due("lesser", 0, canyon.nextWall(6, false));
        Check.due("lesser", 6, canyon.nextWall(15, false));
        Check.raises("none", canyon, NoSuchElementException.class, () -> canyon.nextWall(15, true));
        Check.raises("none", canyon, NoSuchElementException.class, () -> canyon.nextWall(0, false));
        Check.raises("place", canyon, IndexOutOfBoundsException.class, () -> canyon.nextWall(16, false));
        Check.raises("place", canyon, IndexOutOfBoundsException.class, () -> canyon.nextWall(-1, true));
        Check.raises("place", canyon, IndexOutOfBoundsException.class,
                () -> canyon.nextWall(Integer.MIN_VALUE, false));
    }
}
