import java.util.List;
import java.util.NoSuchElementException;
import java.util.function.Consumer;

/** The bounds that the terms name, sentence by sentence: reasons, changes and exceptions. */
public final class ReasonBoundsTest {
    public static void main(String[] args) {
        reasonsOfWall();
        reasonsOfOwn();
        reasonsOfPlayer();
        reasonsOfMove();
        reasonsOfShout();
        reasonsOfCatch();
        reasonsOfBeatAndWind();
        detailZero();
        indexOfTheCommand();
        whatCanBeUndone();
        whatCannotBeUndone();
        latestEight();
        eightComeAround();
        restoreForgets();
        whatStays();
        unchangedByAllThatThrow();
        firstListed();
        Check.finish();
    }

    /** "Something is refused for the first that applies of the reasons that its method names, in the order in which it
     * names them: 1, a number is out of range; 2, there are as many as there can be: this number; 3, there is no such
     * player: how many there are; 4, there is a wall: its height; 5, there is no wall; 6, it is so already: the height,
     * the team, the place or the wind; 7, there are too few points: how many are lacking; 8, it is too far: how many
     * places; 9, the player is hoarse: for how many beats; 10, there is no echo at the place: how many sounds are
     * there; 11, there are no sounds." */
    private static void reasonsOfWall() {
        EchoCanyon canyon = new EchoCanyon();
        for (int player = 1; player <= 6; player++) {
            canyon.player(0, 5);
            Check.refused("1 ahead of 2", canyon, 1, 0, () -> canyon.wall(5, 10));
            Check.refused("1 ahead of 2", canyon, 1, 0, () -> canyon.wall(5, -1));
            Check.refused("6 ahead of 2", canyon, 6, 0, () -> canyon.wall(5, 0));
            Check.refused("2", canyon, 2, player, () -> canyon.wall(5, 1));
        }
        for (int height = 1; height <= 9; height++) {
            int high = height;
            canyon.wall(6, high);
            Check.refused("6", canyon, 6, high, () -> canyon.wall(6, high));
        }
    }

    /** "Something is refused for the first that applies of the reasons that its method names, in the order in which it
     * names them: 1, a number is out of range; 2, there are as many as there can be: this number; 3, there is no such
     * player: how many there are; 4, there is a wall: its height; 5, there is no wall; 6, it is so already: the height,
     * the team, the place or the wind; 7, there are too few points: how many are lacking; 8, it is too far: how many
     * places; 9, the player is hoarse: for how many beats; 10, there is no echo at the place: how many sounds are
     * there; 11, there are no sounds." */
    private static void reasonsOfOwn() {
        EchoCanyon canyon = new EchoCanyon();
        Check.refused("1 ahead of 5", canyon, 1, 0, () -> canyon.own(3, 6));
        Check.refused("1 ahead of 5", canyon, 1, 0, () -> canyon.own(0, 16));
        Check.refused("5", canyon, 5, 0, () -> canyon.own(0, 6));
        for (int team = 0; team <= 2; team++) {
            int owner = team;
            canyon.wall(4 + team, 9);
            canyon.own(team, 4 + team);
            Check.refused("6 ahead of 7", canyon, 6, owner, () -> canyon.own(owner, 4 + owner));
        }
        canyon.wall(10, 2);
        Check.refused("7", canyon, 7, 1, () -> canyon.own(0, 10));
        Check.refused("7, of another team", canyon, 7, 17, () -> canyon.own(0, 5));
    }

    /** "Something is refused for the first that applies of the reasons that its method names, in the order in which it
     * names them: 1, a number is out of range; 2, there are as many as there can be: this number; 3, there is no such
     * player: how many there are; 4, there is a wall: its height; 5, there is no wall; 6, it is so already: the height,
     * the team, the place or the wind; 7, there are too few points: how many are lacking; 8, it is too far: how many
     * places; 9, the player is hoarse: for how many beats; 10, there is no echo at the place: how many sounds are
     * there; 11, there are no sounds." */
    private static void reasonsOfPlayer() {
        EchoCanyon canyon = new EchoCanyon();
        canyon.wall(5, 9);
        Check.refused("1 ahead of 4", canyon, 1, 0, () -> canyon.player(3, 5));
        Check.refused("4", canyon, 4, 9, () -> canyon.player(2, 5));
        Check.run(canyon, "p0@1;p0@1;p0@1;p0@1;p0@1");
        Check.refused("4 with five players", canyon, 4, 9, () -> canyon.player(2, 5));
        canyon.player(0, 1);
        Check.refused("1 ahead of 2", canyon, 1, 0, () -> canyon.player(-1, 1));
        Check.refused("1 ahead of 2", canyon, 1, 0, () -> canyon.player(0, 16));
        Check.refused("2 ahead of 4", canyon, 2, 6, () -> canyon.player(2, 5));
        Check.refused("2", canyon, 2, 6, () -> canyon.player(2, 6));
    }

    /** 5: "Throws `UnsupportedOperationException` if it is refused for the reason 3, 1, 6, 8 or 4; the reason is kept" */
    private static void reasonsOfMove() {
        EchoCanyon canyon = new EchoCanyon();
        for (int players = 0; players < 6; players++) {
            int next = players;
            Check.refused("3 ahead of 1", canyon, 3, players, () -> canyon.move(next, 16));
            Check.refused("3 of a number below 0", canyon, 3, players, () -> canyon.move(-1, 8));
            canyon.player(0, 8);
        }
        Check.refused("3 with six", canyon, 3, 6, () -> canyon.move(6, 8));
        Check.refused("1 ahead of 8", canyon, 1, 0, () -> canyon.move(0, -1));
        Check.refused("6", canyon, 6, 8, () -> canyon.move(0, 8));
        canyon.wall(4, 7);
        canyon.wall(5, 7);
        canyon.wall(11, 3);
        canyon.wall(12, 3);
        Check.refused("8 ahead of 4", canyon, 8, 4, () -> canyon.move(0, 4));
        Check.refused("8 ahead of 4", canyon, 8, 4, () -> canyon.move(0, 12));
        Check.refused("4 at 3 places", canyon, 4, 7, () -> canyon.move(0, 5));
        Check.refused("4 at 3 places", canyon, 4, 3, () -> canyon.move(0, 11));
        for (int distance = 4; distance <= 8; distance++) {
            int far = distance;
            Check.refused("8 by " + far, canyon, 8, far, () -> canyon.move(0, 8 - far));
        }
        for (int distance = 1; distance <= 3; distance++) {
            EchoCanyon near = new EchoCanyon();
            near.player(0, 8);
            near.move(0, 8 - distance);
            Check.due("near enough", 8 - distance, near.playerOf(0, 1));
            near.move(0, 8);
            near.move(0, 8 + distance);
            Check.due("near enough", 8 + distance, near.playerOf(0, 1));
        }
    }

    /** "Something is refused for the first that applies of the reasons that its method names, in the order in which it
     * names them: 1, a number is out of range; 2, there are as many as there can be: this number; 3, there is no such
     * player: how many there are; 4, there is a wall: its height; 5, there is no wall; 6, it is so already: the height,
     * the team, the place or the wind; 7, there are too few points: how many are lacking; 8, it is too far: how many
     * places; 9, the player is hoarse: for how many beats; 10, there is no echo at the place: how many sounds are
     * there; 11, there are no sounds." */
    private static void reasonsOfShout() {
        EchoCanyon canyon = new EchoCanyon();
        canyon.player(0, 8);
        canyon.player(0, 8);
        Check.refused("3 ahead of 1", canyon, 3, 2, () -> canyon.shout(2, true, 0));
        canyon.shout(0, true, 4);
        Check.refused("1 ahead of 9", canyon, 1, 0, () -> canyon.shout(0, true, 21));
        for (int sound = 1; sound < 8; sound++) {
            canyon.shout(1, true, 1);
        }
        Check.refused("1 ahead of 2", canyon, 1, 0, () -> canyon.shout(1, true, 0));
        Check.refused("9 ahead of 2", canyon, 9, 1, () -> canyon.shout(0, true, 1));
        Check.refused("2", canyon, 2, 8, () -> canyon.shout(1, true, 1));
    }

    /** 8: "Throws `UnsupportedOperationException` if it is refused for the reason 3 or 10; the reason is kept" */
    private static void reasonsOfCatch() {
        EchoCanyon canyon = new EchoCanyon();
        Check.refused("3 ahead of 10", canyon, 3, 0, () -> canyon.catchEcho(0));
        canyon.player(0, 8);
        Check.refused("3 ahead of 10", canyon, 3, 1, () -> canyon.catchEcho(1));
        for (int sounds = 0; sounds <= 8; sounds++) {
            Check.refused("10", canyon, 10, sounds, () -> canyon.catchEcho(0));
            if (sounds < 8) {
                canyon.shout(0, true, 1);
            }
        }
        canyon.player(0, 7);
        Check.refused("10 elsewhere", canyon, 10, 0, () -> canyon.catchEcho(1));
    }

    /** 9: "Throws `UnsupportedOperationException` if it is refused for the reason 1 or 6; the reason is kept" */
    private static void reasonsOfBeatAndWind() {
        EchoCanyon canyon = new EchoCanyon();
        Check.refused("11", canyon, 11, 0, () -> canyon.beat());
        for (int wind = -2; wind <= 2; wind++) {
            int blowing = wind;
            if (wind != 0) {
                canyon.wind(wind);
                Check.refused("6", canyon, 6, blowing, () -> canyon.wind(blowing));
            }
            Check.refused("1", canyon, 1, 0, () -> canyon.wind(-3));
            Check.refused("1", canyon, 1, 0, () -> canyon.wind(3));
        }
    }

    /** "If nothing else is told, the detail is 0." */
    private static void detailZero() {
        EchoCanyon canyon = new EchoCanyon();
        Check.refused("3 of none leaves 0", canyon, 3, 0, () -> canyon.move(0, 0));
        canyon.player(0, 8);
        canyon.wall(3, 9);
        Check.refused("4 with a detail", canyon, 4, 9, () -> canyon.player(0, 3));
        Check.refused("5 without", canyon, 5, 0, () -> canyon.own(0, 4));
        Check.refused("4 with a detail", canyon, 4, 9, () -> canyon.player(0, 3));
        Check.refused("1 without", canyon, 1, 0, () -> canyon.wind(9));
        Check.refused("4 with a detail", canyon, 4, 9, () -> canyon.player(0, 3));
        Check.refused("11 without", canyon, 11, 0, () -> canyon.beat());
    }

    /** "The reason is kept with the index of the command of a text, from 0, or 0 for another call." */
    private static void indexOfTheCommand() {
        EchoCanyon canyon = new EchoCanyon();
        for (int index = 0; index <= 14; index++) {
            StringBuilder text = new StringBuilder();
            for (int count = 0; count < index; count++) {
                text.append(count % 2 == 0 ? "v+1;" : "v-1;");
            }
            text.append("v+3");
            Check.raisesOnly("refused", UnsupportedOperationException.class,
                    () -> Check.run(canyon, text.toString()));
            Check.due("index", "1/0/" + index, Check.reasonOf(canyon));
        }
        Check.refused("0 for another call", canyon, 11, 0, () -> canyon.beat());
        Check.run(canyon, "v+1;v-1");
        Check.due("kept over a text that is carried out", "11/0/0", Check.reasonOf(canyon));
    }

    /** "What can be undone are the successful calls of wall, own, player, move, shout, beat, catchEcho, wind and
     * commands." */
    private static void whatCanBeUndone() {
        EchoCanyon canyon = new EchoCanyon();
        String[] states = new String[10];
        for (int change = 0; change < 9; change++) {
            states[change] = Check.undoableOf(canyon);
            makeChange(canyon, change);
            Check.due("kept", Math.min(8, change + 1), canyon.account(10));
        }
        for (int change = 8; change >= 1; change--) {
            Check.due("left", change - 1, canyon.undo());
            Check.due("change " + change + " is undone", states[change], Check.undoableOf(canyon));
        }
        Check.raises("the ninth is not kept", canyon, IllegalStateException.class, () -> canyon.undo());
    }

    private static void makeChange(EchoCanyon canyon, int change) {
        switch (change) {
            case 0:
                canyon.wall(6, 9);
                break;
            case 1:
                canyon.own(1, 6);
                break;
            case 2:
                canyon.player(0, 4);
                break;
            case 3:
                canyon.move(0, 5);
                break;
            case 4:
                canyon.shout(0, true, 20);
                break;
            case 5:
                canyon.wind(-2);
                break;
            case 6:
                canyon.beat();
                break;
            case 7:
                canyon.catchEcho(0);
                break;
            default:
                Check.run(canyon, "w6=0;m0>6");
                break;
        }
    }

    /** "What can be undone are the successful calls of wall, own, player, move, shout, beat, catchEcho, wind and
     * commands." */
    private static void whatCannotBeUndone() {
        EchoCanyon canyon = new EchoCanyon();
        Check.run(canyon, "w9=9;p0@8;s0+20;b");
        canyon.append('b');
        canyon.line();
        canyon.soundLine(0);
        canyon.save();
        canyon.where(0, 1);
        canyon.comes(0);
        canyon.comesAgain(0);
        canyon.goneInAgain(0);
        canyon.bestLoudness(0, true);
        canyon.returns(0, true, 20);
        Check.refused("refused", canyon, 1, 0, () -> canyon.wall(16, 1));
        Check.refused("refused", canyon, 5, 0, () -> canyon.own(0, 3));
        Check.refused("refused", canyon, 4, 9, () -> canyon.player(0, 9));
        Check.refused("refused", canyon, 8, 4, () -> canyon.move(0, 12));
        Check.refused("refused", canyon, 9, 4, () -> canyon.shout(0, true, 1));
        Check.refused("refused", canyon, 3, 1, () -> canyon.catchEcho(1));
        Check.refused("refused", canyon, 6, 0, () -> canyon.wind(0));
        Check.due("one change", 1, canyon.account(10));
        Check.due("none left", 0, canyon.undo());
        Check.due("nothing is there", 0, canyon.account(0) + canyon.account(1) + canyon.account(2));
        Check.refused("refused", canyon, 11, 0, () -> canyon.beat());
        Check.due("a refused beat cannot be undone", 0, canyon.account(10));
    }

    /** "What there was before each of the latest 8 is kept; restore forgets it." */
    private static void latestEight() {
        for (int changes = 7; changes <= 10; changes++) {
            EchoCanyon canyon = new EchoCanyon();
            for (int change = 0; change < changes; change++) {
                canyon.wall(change, 1);
            }
            int kept = Math.min(8, changes);
            Check.due("kept", kept, canyon.account(10));
            for (int left = kept - 1; left >= 0; left--) {
                Check.due("left", left, canyon.undo());
                Check.due("walls", changes - kept + left, canyon.account(0));
            }
            Check.raises("none left", canyon, IllegalStateException.class, () -> canyon.undo());
            Check.due("what fell away stays", changes - kept, canyon.account(0));
        }
    }

    /** "What there was before each of the latest 8 is kept; restore forgets it." */
    private static void eightComeAround() {
        for (int undone = 0; undone <= 8; undone++) {
            for (int more = 0; more <= 9; more++) {
                EchoCanyon canyon = new EchoCanyon();
                int height = 0;
                for (int change = 0; change < 13; change++) {
                    height = 1 + change % 9;
                    canyon.wall(4, height);
                }
                for (int left = 7; left >= 8 - undone; left--) {
                    canyon.undo();
                }
                Check.due("left", 8 - undone, canyon.account(10));
                int[] heights = new int[10];
                for (int change = 0; change < more; change++) {
                    heights[change] = canyon.wallOf(4, false);
                    canyon.wall(4, 1 + heights[change] % 9);
                }
                int kept = Math.min(8, 8 - undone + more);
                Check.due("kept", kept, canyon.account(10));
                for (int change = more - 1; change >= Math.max(0, more - 8); change--) {
                    canyon.undo();
                    Check.due("undone", heights[change], canyon.wallOf(4, false));
                }
            }
        }
    }

    /** "What there was before each of the latest 8 is kept; restore forgets it." */
    private static void restoreForgets() {
        for (int changes = 0; changes <= 9; changes++) {
            EchoCanyon canyon = new EchoCanyon();
            canyon.save();
            for (int change = 0; change < changes; change++) {
                canyon.wall(change, 1);
            }
            canyon.restore();
            Check.due("forgotten", 0, canyon.account(10));
            Check.raises("none", canyon, IllegalStateException.class, () -> canyon.undo());
            canyon.wall(5, 1);
            Check.due("what comes behind it is kept", 0, canyon.undo());
            Check.raises("none again", canyon, IllegalStateException.class, () -> canyon.undo());
        }
        EchoCanyon unsaved = new EchoCanyon();
        unsaved.wall(5, 1);
        Check.raises("no snapshot", unsaved, IllegalStateException.class, () -> unsaved.restore());
        Check.due("a refused restore forgets nothing", 0, unsaved.undo());
    }

    /** "The text buffer, the fault position, the reason and the line do not belong to it, and stay." */
    private static void whatStays() {
        for (int way = 0; way < 2; way++) {
            EchoCanyon canyon = new EchoCanyon();
            canyon.save();
            canyon.wall(3, 4);
            Check.raisesOnly("fault", IllegalArgumentException.class, () -> Check.run(canyon, "v+"));
            Check.refused("refused", canyon, 4, 4, () -> canyon.player(0, 3));
            canyon.line();
            Check.type(canyon, "w3=");
            if (way == 0) {
                canyon.undo();
            } else {
                canyon.restore();
            }
            Check.due("the wall does not stay", 0, canyon.wallOf(3, false));
            Check.due("fault", 2, canyon.faultPosition());
            Check.due("reason", "4/4/0", Check.reasonOf(canyon));
            Check.due("line", "...4............", Check.lineOf(canyon));
            Check.due("buffer", 3, canyon.account(11));
            Check.due("its characters", 1, Check.run(canyon, "7"));
            Check.due("carried out", 7, canyon.wallOf(3, false));
        }
    }

    /** "A call that throws an exception leaves the state unchanged, unless stated otherwise." */
    private static void unchangedByAllThatThrow() {
        List<Consumer<EchoCanyon>> calls = List.of(x -> x.wall(16, 1), x -> x.wall(9, 9), x -> x.wall(8, 1),
                x -> x.own(3, 9), x -> x.own(0, 0), x -> x.own(1, 9), x -> x.own(0, 9), x -> x.player(-1, 0),
                x -> x.player(0, 9), x -> x.move(3, 0), x -> x.move(0, -1), x -> x.move(0, 8), x -> x.move(0, 12),
                x -> x.move(0, 9), x -> x.shout(-1, true, 1), x -> x.shout(2, true, 21), x -> x.shout(0, true, 1),
                x -> x.catchEcho(3), x -> x.catchEcho(1), x -> x.wind(3), x -> x.wind(1), x -> x.wallOf(16, true),
                x -> x.teamOf(3, 0), x -> x.teamOf(0, 6), x -> x.playerOf(3, 0), x -> x.playerOf(0, 5),
                x -> x.soundOf(3, 0), x -> x.soundOf(0, 5), x -> x.isEcho(3), x -> x.echoesAt(16),
                x -> x.where(3, 0), x -> x.where(0, 21), x -> x.where(0, 20), x -> x.loudIn(3, 0),
                x -> x.loudIn(0, -1), x -> x.goneIn(3), x -> x.goneInAgain(-1), x -> x.comes(3),
                x -> x.comesAgain(-1), x -> x.returns(3, true, 1), x -> x.returns(0, true, 0),
                x -> x.bestLoudness(3, true), x -> x.bestTeam(16), x -> x.bestTeam(0), x -> x.price(3, 9),
                x -> x.price(0, 0), x -> x.nextWall(16, false), x -> x.nextWall(15, true), x -> x.ranked(4, 0),
                x -> x.ranked(0, 3), x -> x.loudest(3), x -> x.reason(3), x -> x.soundLine(3), x -> x.character(6),
                x -> x.account(12));
        String before = Check.wholeOf(Canyons.played());
        EchoCanyon called = Canyons.played();
        for (int index = 0; index < calls.size(); index++) {
            EchoCanyon once = Canyons.played();
            Check.due("call " + index + " throws", true, isThrown(calls.get(index), called));
            Check.due("call " + index + " throws", true, isThrown(calls.get(index), once));
            Check.due("all of the state behind call " + index, before, Check.wholeOf(once));
        }
        Check.due("all of the state behind them all", before, Check.wholeOf(called));
    }

    private static boolean isThrown(Consumer<EchoCanyon> call, EchoCanyon canyon) {
        try {
            call.accept(canyon);
            return false;
        } catch (RuntimeException thrown) {
            return true;
        }
    }

    /** "If several conditions of a method are fulfilled, the one that is listed first determines the exception." */
    private static void firstListed() {
        EchoCanyon canyon = new EchoCanyon();
        Class<IndexOutOfBoundsException> index = IndexOutOfBoundsException.class;
        Class<IllegalArgumentException> argument = IllegalArgumentException.class;
        Class<NoSuchElementException> none = NoSuchElementException.class;
        Check.raises("teamOf", canyon, index, () -> canyon.teamOf(3, 6));
        Check.raises("teamOf", canyon, argument, () -> canyon.teamOf(2, 6));
        Check.raises("playerOf", canyon, index, () -> canyon.playerOf(0, 5));
        Check.raises("soundOf", canyon, index, () -> canyon.soundOf(0, 5));
        Check.raises("where", canyon, index, () -> canyon.where(0, 21));
        Check.raises("loudIn", canyon, index, () -> canyon.loudIn(0, 21));
        Check.raises("comes", canyon, index, () -> canyon.comes(0));
        Check.raises("comesAgain", canyon, index, () -> canyon.comesAgain(0));
        Check.raises("returns", canyon, index, () -> canyon.returns(0, true, 0));
        Check.raises("bestLoudness", canyon, index, () -> canyon.bestLoudness(0, true));
        Check.raises("bestTeam", canyon, index, () -> canyon.bestTeam(16));
        Check.raises("bestTeam", canyon, none, () -> canyon.bestTeam(15));
        Check.raises("price", canyon, index, () -> canyon.price(3, 5));
        Check.raises("price", canyon, index, () -> canyon.price(0, 16));
        Check.raises("price", canyon, none, () -> canyon.price(0, 5));
        Check.raises("nextWall", canyon, index, () -> canyon.nextWall(16, true));
        Check.raises("ranked", canyon, argument, () -> canyon.ranked(4, 3));
        Check.raises("ranked", canyon, none, () -> canyon.ranked(3, 3));
        Check.raises("reason", canyon, argument, () -> canyon.reason(3));
        Check.raises("reason", canyon, none, () -> canyon.reason(2));
        canyon.player(0, 15);
        canyon.shout(0, true, 20);
        Check.raises("where", canyon, argument, () -> canyon.where(0, 21));
        Check.raises("where", canyon, none, () -> canyon.where(0, 20));
        Check.raises("returns", canyon, argument, () -> canyon.returns(0, true, 0));
        Check.raisesOnly("commands", argument, () -> Check.run(canyon, "c0;c"));
        Check.raisesOnly("commands", UnsupportedOperationException.class, () -> Check.run(canyon, "c0;c0"));
    }
}
