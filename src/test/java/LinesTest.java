/** Promises 34, 35, 36 and 39: lines and accounts. */
public final class LinesTest {
    public static void main(String[] args) {
        promise34line();
        promise35soundLine();
        promise36character();
        promise39account();
        promise39refusals();
        Check.finish();
    }

    private static void promise34line() {
        EchoCanyon canyon = new EchoCanyon();
        Check.due("length", 16, canyon.line());
        Check.due("line", "................", Check.lineOf(canyon));
        canyon.wall(0, 1);
        canyon.wall(1, 2);
        canyon.wall(8, 9);
        canyon.wall(15, 3);
        canyon.own(0, 0);
        canyon.own(1, 1);
        canyon.own(2, 15);
        Check.due("the line before stays", "................", Check.lineOf(canyon));
        Check.due("length", 19, canyon.line());
        Check.due("line", "1a2b......9......3c", Check.lineOf(canyon));
        for (int place = 0; place < 16; place++) {
            Check.run(canyon, "w" + place + "=4;w" + place + "=0;w" + place + "=1;o" + place % 3 + "@" + place);
        }
        Check.due("length", 32, canyon.line());
        Check.due("line", "1a1b1c1a1b1c1a1b1c1a1b1c1a1b1c1a", Check.lineOf(canyon));
    }

    private static void promise35soundLine() {
        EchoCanyon canyon = new EchoCanyon();
        canyon.line();
        canyon.wall(8, 9);
        canyon.player(1, 7);
        canyon.player(0, 10);
        canyon.player(2, 0);
        canyon.shout(0, true, 14);
        canyon.shout(1, false, 1);
        canyon.shout(1, true, 20);
        canyon.shout(2, true, 9);
        dueLine(canyon, 0, "7>14b");
        dueLine(canyon, 1, "10<1a");
        dueLine(canyon, 2, "10>20a");
        dueLine(canyon, 3, "0>9c");
        canyon.beat();
        dueLine(canyon, 0, "7<12b!");
        Check.raises("sound", canyon, IndexOutOfBoundsException.class, () -> canyon.soundLine(3));
        Check.raises("sound", canyon, IndexOutOfBoundsException.class, () -> canyon.soundLine(-1));
    }

    private static void dueLine(EchoCanyon canyon, int sound, String line) {
        Check.due("length", line.length(), canyon.soundLine(sound));
        Check.due("line", line, Check.lineOf(canyon));
    }

    private static void promise36character() {
        EchoCanyon canyon = new EchoCanyon();
        Check.raises("empty at first", canyon, IndexOutOfBoundsException.class, () -> canyon.character(0));
        canyon.wall(2, 7);
        canyon.line();
        Check.due("first", '.', canyon.character(0));
        Check.due("wall", '7', canyon.character(2));
        Check.due("last", '.', canyon.character(15));
        Check.raises("index", canyon, IndexOutOfBoundsException.class, () -> canyon.character(16));
        Check.raises("index", canyon, IndexOutOfBoundsException.class, () -> canyon.character(-1));
        canyon.player(0, 5);
        canyon.shout(0, true, 3);
        canyon.soundLine(0);
        Check.raises("shorter", canyon, IndexOutOfBoundsException.class, () -> canyon.character(4));
        canyon.undo();
        Check.due("undo lets it stay", "5>3a", Check.lineOf(canyon));
    }

    private static void promise39account() {
        EchoCanyon canyon = new EchoCanyon();
        canyon.wall(6, 9);
        canyon.wall(8, 4);
        canyon.own(1, 6);
        canyon.player(0, 5);
        canyon.player(2, 7);
        canyon.player(2, 7);
        canyon.shout(0, true, 9);
        canyon.shout(1, true, 3);
        canyon.shout(1, false, 3);
        canyon.wind(1);
        canyon.beat();
        canyon.shout(2, true, 10);
        canyon.beat();
        canyon.wind(-1);
        canyon.catchEcho(1);
        Check.type(canyon, "b;x");
        int[] due = {2, 3, 1, 1, -1, 2, 4, 3, 9, 9, 8, 3};
        for (int what = 0; what < 12; what++) {
            Check.due("account " + what, due[what], canyon.account(what));
        }
    }

    private static void promise39refusals() {
        EchoCanyon canyon = new EchoCanyon();
        Check.raises("what", canyon, IllegalArgumentException.class, () -> canyon.account(-1));
        Check.raises("what", canyon, IllegalArgumentException.class, () -> canyon.account(12));
    }
}
