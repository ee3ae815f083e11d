/** Calls of the face by their names, with numbers: a boolean is 1 or 0, and so is it answered; a character is its code. */
final class Calls {
    private Calls() {
    }

    static String on(EchoCanyon canyon, String name, int one, int two, int three) {
        switch (name) {
            case "meanLoudness":
                return "" + canyon.meanLoudness();
            case "echoShare":
                return "" + canyon.echoShare();
            case "isEcho":
                return canyon.isEcho(one) ? "1" : "0";
            case "isEven":
                return canyon.isEven() ? "1" : "0";
            case "character":
                return "" + (int) canyon.character(one);
            default:
                return "" + number(canyon, name, one, two, three);
        }
    }

    private static int number(EchoCanyon canyon, String name, int one, int two, int three) {
        switch (name) {
            case "wall":
                return canyon.wall(one, two);
            case "own":
                return canyon.own(one, two);
            case "player":
                return canyon.player(one, two);
            case "move":
                return canyon.move(one, two);
            case "shout":
                return canyon.shout(one, two == 1, three);
            case "beat":
                return canyon.beat();
            case "catchEcho":
                return canyon.catchEcho(one);
            case "wind":
                return canyon.wind(one);
            case "append":
                return canyon.append((char) one);
            case "commands":
                return canyon.commands();
            case "undo":
                return canyon.undo();
            case "save":
                return canyon.save();
            case "restore":
                return canyon.restore();
            case "line":
                return canyon.line();
            case "soundLine":
                return canyon.soundLine(one);
            default:
                return answer(canyon, name, one, two, three);
        }
    }

    private static int answer(EchoCanyon canyon, String name, int one, int two, int three) {
        switch (name) {
            case "wallOf":
                return canyon.wallOf(one, two == 1);
            case "teamOf":
                return canyon.teamOf(one, two);
            case "playerOf":
                return canyon.playerOf(one, two);
            case "soundOf":
                return canyon.soundOf(one, two);
            case "echoesAt":
                return canyon.echoesAt(one);
            case "where":
                return canyon.where(one, two);
            case "loudIn":
                return canyon.loudIn(one, two);
            case "goneIn":
                return canyon.goneIn(one);
            case "goneInAgain":
                return canyon.goneInAgain(one);
            case "comes":
                return canyon.comes(one);
            case "comesAgain":
                return canyon.comesAgain(one);
            case "returns":
                return canyon.returns(one, two == 1, three);
            case "bestLoudness":
                return canyon.bestLoudness(one, two == 1);
            case "bestTeam":
                return canyon.bestTeam(one);
            case "price":
                return canyon.price(one, two);
            case "nextWall":
                return canyon.nextWall(one, two == 1);
            case "ranked":
                return canyon.ranked(one, two);
            case "loudest":
                return canyon.loudest(one);
            case "faultPosition":
                return canyon.faultPosition();
            case "reason":
                return canyon.reason(one);
            case "account":
                return canyon.account(one);
            default:
                throw new AssertionError(name);
        }
    }
}
