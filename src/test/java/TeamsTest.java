import java.util.NoSuchElementException;

/** Promises 11, 27 and 29: what teams have, their orders, and whether the points are even. */
public final class TeamsTest {
    public static void main(String[] args) {
        promise11teamOf();
        promise11refusals();
        promise27ranked();
        promise27edgePlaces();
        promise27refusals();
        promise29isEven();
        Check.finish();
    }

    /** Teams 0 and 1 have walls, team 1 has caught two echoes, one of them of team 2. */
    private static EchoCanyon played() {
        EchoCanyon canyon = new EchoCanyon();
        canyon.wall(2, 2);
        canyon.wall(3, 1);
        canyon.wall(6, 9);
        canyon.own(0, 2);
        canyon.own(0, 3);
        canyon.own(1, 6);
        canyon.player(1, 5);
        canyon.player(2, 5);
        canyon.player(2, 9);
        canyon.shout(0, true, 5);
        canyon.shout(1, true, 4);
        canyon.shout(2, true, 20);
        canyon.beat();
        canyon.catchEcho(0);
        canyon.catchEcho(0);
        return canyon;
    }

    private static void promise11teamOf() {
        EchoCanyon canyon = played();
        int[][] due = {{7, 2, 0, 0, 0, 0}, {10, 1, 1, 0, 2, 1}, {10, 0, 2, 1, 0, 0}};
        for (int team = 0; team < 3; team++) {
            for (int what = 0; what < 6; what++) {
                Check.due("team " + team + ", " + what, due[team][what], canyon.teamOf(team, what));
            }
        }
    }

    private static void promise11refusals() {
        EchoCanyon canyon = played();
        Check.raises("team", canyon, IndexOutOfBoundsException.class, () -> canyon.teamOf(-1, 0));
        Check.raises("team ahead", canyon, IndexOutOfBoundsException.class, () -> canyon.teamOf(3, 6));
        Check.raises("what", canyon, IllegalArgumentException.class, () -> canyon.teamOf(0, -1));
        Check.raises("what", canyon, IllegalArgumentException.class, () -> canyon.teamOf(2, 6));
    }

    private static void promise27ranked() {
        int[][] due = {{1, 2, 0}, {0, 1, 2}, {1, 0, 2}, {1, 0, 2}};
        EchoCanyon canyon = played();
        for (int measure = 0; measure < 4; measure++) {
            for (int place = 0; place < 3; place++) {
                Check.due("measure " + measure + ", " + place, due[measure][place], canyon.ranked(measure, place));
            }
        }
    }

    private static void promise27edgePlaces() {
        EchoCanyon canyon = new EchoCanyon();
        canyon.wall(0, 3);
        canyon.wall(7, 2);
        canyon.wall(15, 4);
        canyon.own(0, 7);
        canyon.own(1, 0);
        canyon.own(2, 15);
        int[] due = {2, 1, 0};
        for (int place = 0; place < 3; place++) {
            Check.due("heights, " + place, due[place], canyon.ranked(2, place));
        }
    }

    private static void promise27refusals() {
        EchoCanyon canyon = played();
        Check.raises("measure", canyon, IllegalArgumentException.class, () -> canyon.ranked(-1, 0));
        Check.raises("measure ahead", canyon, IllegalArgumentException.class, () -> canyon.ranked(4, 3));
        Check.raises("place", canyon, NoSuchElementException.class, () -> canyon.ranked(0, 3));
        Check.raises("place", canyon, NoSuchElementException.class, () -> canyon.ranked(3, -1));
    }

    private static void promise29isEven() {
        EchoCanyon canyon = played();
        Check.due("even", true, canyon.isEven());
        canyon.own(2, 3);
        Check.due("a wall of another team", true, canyon.isEven());
        Check.due("points together", 27, canyon.teamOf(0, 0) + canyon.teamOf(1, 0) + canyon.teamOf(2, 0));
        canyon.undo();
        Check.due("undone", true, canyon.isEven());
    }
}
