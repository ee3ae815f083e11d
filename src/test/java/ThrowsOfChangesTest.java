/** Each line "Throws" of the calls that change something: both sides of each bound, and nothing changed by it. */
public final class ThrowsOfChangesTest {
    private static final Class<UnsupportedOperationException> REFUSED = UnsupportedOperationException.class;
    private static final Class<IllegalStateException> STATE = IllegalStateException.class;
    private static final Class<IllegalArgumentException> ARGUMENT = IllegalArgumentException.class;
    private static final int LEAST = Integer.MIN_VALUE;
    private static final int MOST = Integer.MAX_VALUE;

    public static void main(String[] args) {
        canyonsAreAsTold();
        refusedWalls();
        refusedPurchases();
        refusedPlayers();
        refusedMoves();
        refusedShouts();
        refusedBeats();
        refusedCatches();
        refusedWinds();
        appendToFull();
        faultOfText();
        refusedCommand();
        nothingToUndo();
        noSnapshot();
        Check.finish();
    }

    /** What the tests below call full, played and bare. */
    private static void canyonsAreAsTold() {
        int[] numbers = {1, 2, 10, 11};
        int[] full = {6, 8, 8, 60};
        int[] played = {3, 3, 8, 8};
        for (int index = 0; index < numbers.length; index++) {
            Check.due("full", full[index], Canyons.full().account(numbers[index]));
            Check.due("played", played[index], Canyons.played().account(numbers[index]));
            Check.due("bare", 0, Canyons.bare().account(numbers[index]));
        }
        Check.due("reason", "8/4/1", Check.reasonOf(Canyons.played()));
        Check.due("fault", 2, Canyons.played().faultPosition());
        Check.due("snapshot", 3, Canyons.played().restore());
    }

    /** 2: "Throws `UnsupportedOperationException` if it is refused for the reason 1, 6 or 2, with the number of the
     * players at the place, if there are some; the reason is kept" */
    private static void refusedWalls() {
        int[][] wrong = {{-1, 1}, {16, 1}, {LEAST, 1}, {MOST, 1}, {0, -1}, {0, 10}, {0, LEAST}, {0, MOST}, {0, 0},
            {9, 9}, {8, 1}, {8, 0}};
        for (int[] numbers : wrong) {
            Check.leavesAlike("wall", Canyons::played, REFUSED, canyon -> canyon.wall(numbers[0], numbers[1]));
        }
        Check.leavesAlike("wall", Canyons::full, REFUSED, canyon -> canyon.wall(4, 9));
        int[][] right = {{0, 1}, {15, 9}, {9, 0}, {9, 8}, {1, 1}};
        for (int[] numbers : right) {
            EchoCanyon canyon = Canyons.played();
            int before = canyon.wallOf(numbers[0], false);
            Check.due("before", before, canyon.wall(numbers[0], numbers[1]));
            Check.due("then", numbers[1], canyon.wallOf(numbers[0], false));
        }
        EchoCanyon left = Canyons.played();
        left.move(0, 10);
        Check.due("a player who has left", 0, left.wall(8, 1));
    }

    /** 3: "Throws `UnsupportedOperationException` if it is refused for the reason 1, 5, 6 or 7; the reason is kept" */
    private static void refusedPurchases() {
        int[][] wrong = {{-1, 9}, {3, 9}, {LEAST, 9}, {MOST, 9}, {0, -1}, {0, 16}, {0, LEAST}, {0, MOST}, {0, 0},
            {0, 15}, {1, 9}, {2, 5}, {0, 9}};
        for (int[] numbers : wrong) {
            Check.leavesAlike("own", Canyons::played, REFUSED, canyon -> canyon.own(numbers[0], numbers[1]));
        }
        int[][] right = {{0, 14}, {0, 5}, {2, 14}, {1, 12}};
        int[] left = {7, 2, 3, 1};
        for (int index = 0; index < right.length; index++) {
            EchoCanyon canyon = Canyons.played();
            Check.due("left", left[index], canyon.own(right[index][0], right[index][1]));
        }
    }

    /** 4: "Throws `UnsupportedOperationException` if it is refused for the reason 1, 2 or 4; the reason is kept" */
    private static void refusedPlayers() {
        int[][] wrong = {{-1, 3}, {3, 3}, {LEAST, 3}, {MOST, 3}, {0, -1}, {0, 16}, {0, LEAST}, {0, MOST}, {0, 5},
            {2, 9}};
        for (int[] numbers : wrong) {
            Check.leavesAlike("player", Canyons::played, REFUSED, canyon -> canyon.player(numbers[0], numbers[1]));
        }
        Check.leavesAlike("player", Canyons::full, REFUSED, canyon -> canyon.player(0, 3));
        Check.leavesAlike("player", Canyons::full, REFUSED, canyon -> canyon.player(2, 5));
        int[][] right = {{0, 0}, {2, 15}, {1, 8}};
        EchoCanyon canyon = Canyons.played();
        for (int index = 0; index < right.length; index++) {
            Check.due("number", 3 + index, canyon.player(right[index][0], right[index][1]));
        }
        Check.refused("a seventh", canyon, 2, 6, () -> canyon.player(0, 0));
    }

    /** 5: "Throws `UnsupportedOperationException` if it is refused for the reason 3, 1, 6, 8 or 4; the reason is kept" */
    private static void refusedMoves() {
        int[][] wrong = {{-1, 8}, {3, 8}, {LEAST, 8}, {MOST, 8}, {0, -1}, {0, 16}, {0, LEAST}, {0, MOST}, {0, 8},
            {0, 4}, {0, 12}, {0, 5}, {0, 9}, {0, 11}};
        for (int[] numbers : wrong) {
            Check.leavesAlike("move", Canyons::played, REFUSED, canyon -> canyon.move(numbers[0], numbers[1]));
        }
        Check.leavesAlike("move", Canyons::bare, REFUSED, canyon -> canyon.move(0, 0));
        int[][] right = {{0, 6}, {0, 7}, {0, 10}, {1, 4}, {2, 0}, {2, 3}, {1, 10}};
        int[] sounds = {1, 0, 0, 0, 0, 0, 0};
        for (int index = 0; index < right.length; index++) {
            EchoCanyon canyon = Canyons.played();
            int player = right[index][0];
            int place = right[index][1];
            Check.due("sounds there", sounds[index], canyon.move(player, place));
            Check.due("place", place, canyon.playerOf(player, 1));
        }
    }

    /** 6: "Throws `UnsupportedOperationException` if it is refused for the reason 3, 1, 9 or 2; the reason is kept" */
    private static void refusedShouts() {
        int[][] wrong = {{-1, 5}, {3, 5}, {LEAST, 5}, {MOST, 5}, {2, 0}, {2, 21}, {2, LEAST}, {2, MOST}, {0, 5},
            {1, 1}};
        for (int[] numbers : wrong) {
            Check.leavesAlike("shout", Canyons::played, REFUSED,
                    canyon -> canyon.shout(numbers[0], true, numbers[1]));
            Check.leavesAlike("shout", Canyons::played, REFUSED,
                    canyon -> canyon.shout(numbers[0], false, numbers[1]));
        }
        Check.leavesAlike("shout", Canyons::full, REFUSED, canyon -> canyon.shout(0, true, 1));
        Check.leavesAlike("shout", Canyons::bare, REFUSED, canyon -> canyon.shout(0, true, 1));
        int[] right = {1, 20};
        for (int loudness : right) {
            EchoCanyon canyon = Canyons.played();
            Check.due("number", 3, canyon.shout(2, true, loudness));
            Check.due("loudness", loudness, canyon.soundOf(3, 1));
        }
    }

    /** 7: "Throws `UnsupportedOperationException` if it is refused for the reason 11; the reason is kept" */
    private static void refusedBeats() {
        Check.leavesAlike("beat", Canyons::bare, REFUSED, canyon -> canyon.beat());
        Check.leavesAlike("beat", Canyons::quiet, REFUSED, canyon -> canyon.beat());
        EchoCanyon canyon = Canyons.quiet();
        canyon.shout(0, true, 1);
        Check.due("one sound is enough", 1, canyon.beat());
        Check.refused("then none", canyon, 11, 0, () -> canyon.beat());
    }

    /** 8: "Throws `UnsupportedOperationException` if it is refused for the reason 3 or 10; the reason is kept" */
    private static void refusedCatches() {
        int[] wrong = {-1, 3, LEAST, MOST, 1, 2};
        for (int player : wrong) {
            Check.leavesAlike("catchEcho", Canyons::played, REFUSED, canyon -> canyon.catchEcho(player));
        }
        Check.leavesAlike("catchEcho", Canyons::bare, REFUSED, canyon -> canyon.catchEcho(0));
        Check.leavesAlike("catchEcho", Canyons::quiet, REFUSED, canyon -> canyon.catchEcho(0));
        EchoCanyon canyon = Canyons.played();
        Check.due("its own echo", 18, canyon.catchEcho(0));
        Check.refused("then none", canyon, 10, 0, () -> canyon.catchEcho(0));
    }

    /** 9: "Throws `UnsupportedOperationException` if it is refused for the reason 1 or 6; the reason is kept" */
    private static void refusedWinds() {
        int[] wrong = {-3, 3, LEAST, MOST, 1};
        for (int wind : wrong) {
            Check.leavesAlike("wind", Canyons::played, REFUSED, canyon -> canyon.wind(wind));
        }
        Check.leavesAlike("wind", Canyons::bare, REFUSED, canyon -> canyon.wind(0));
        int[] right = {-2, -1, 0, 2};
        for (int wind : right) {
            Check.due("before", 1, Canyons.played().wind(wind));
        }
    }

    /** 30: "Throws `IllegalStateException` if the buffer contains 60 characters" */
    private static void appendToFull() {
        char[] characters = {'b', ';', (char) 0, '\uFFFF'};
        for (char character : characters) {
            Check.leavesAlike("append", Canyons::full, STATE, canyon -> canyon.append(character));
        }
        EchoCanyon canyon = Canyons.played();
        for (int length = canyon.account(11) + 1; length <= 60; length++) {
            Check.due("length", length, canyon.append(characters[length % 4]));
        }
        Check.raises("full", canyon, STATE, () -> canyon.append('b'));
    }

    /** A played canyon with an empty buffer, behind a text with this fault. */
    private static EchoCanyon playedWithFault(String text) {
        EchoCanyon canyon = Canyons.played("");
        Check.raisesOnly(text, ARGUMENT, () -> Check.run(canyon, text));
        return canyon;
    }

    /** 31: "Throws `IllegalArgumentException` if the text has a fault" */
    private static void faultOfText() {
        String[] texts = {"", ";", "x", "w1=1;", "w1=1;x", "w1=1;w2", "w1=1;b;b;", "w3=1;c2;c"};
        for (String text : texts) {
            EchoCanyon canyon = playedWithFault("v+");
            String before = Check.undoableOf(canyon) + Check.reasonOf(canyon) + Check.lineOf(canyon);
            Check.raisesOnly(text, ARGUMENT, () -> Check.run(canyon, text));
            Check.due("buffer", 0, canyon.account(11));
            Check.due("state", before, Check.undoableOf(canyon) + Check.reasonOf(canyon) + Check.lineOf(canyon));
            Check.raisesOnly(text, ARGUMENT, () -> Check.run(canyon, "v+"));
            Check.due("all of the state", Check.wholeOf(playedWithFault("v+")), Check.wholeOf(canyon));
        }
    }

    /** 31: "Throws `UnsupportedOperationException` if a command is refused; the reason is kept" */
    private static void refusedCommand() {
        String[] texts = {"w16=1", "w0=9;w0=9", "o0@9", "p3@0", "p0@0;w0=1", "m0>12", "m2>3;m2>2;s0+1", "s2+0", "s2-21",
            "c1", "c0;c0", "v+1", "v-2;v+3", "v+9", "b;b;b;b;b;b;b;b;b;b;b;b;b;b;b;b;b"};
        for (String text : texts) {
            EchoCanyon canyon = playedWithFault("v+");
            String before = Check.undoableOf(canyon) + Check.lineOf(canyon);
            Check.raisesOnly(text, REFUSED, () -> Check.run(canyon, text));
            Check.due(text + ", buffer", 0, canyon.account(11));
            Check.due(text + ", no fault", -1, canyon.faultPosition());
            Check.due(text + ", state", before, Check.undoableOf(canyon) + Check.lineOf(canyon));
            Check.raisesOnly(text, ARGUMENT, () -> Check.run(canyon, "v+"));
            Check.due(text + ", all of the state", Check.wholeOf(playedWithFault("v+")), Check.wholeOf(canyon));
        }
    }

    /** 40: "Throws `IllegalStateException` if there is none" */
    private static void nothingToUndo() {
        Check.leavesAlike("undo", Canyons::bare, STATE, canyon -> canyon.undo());
        Check.leavesAlike("undo", Canyons::quiet, STATE, canyon -> canyon.undo());
        EchoCanyon canyon = Canyons.played();
        for (int left = canyon.account(10) - 1; left >= 0; left--) {
            Check.due("left", left, canyon.undo());
        }
        Check.raises("none left", canyon, STATE, () -> canyon.undo());
        Check.due("the snapshot stays", 3, canyon.restore());
    }

    /** 42: "Throws `IllegalStateException` if there is no snapshot" */
    private static void noSnapshot() {
        Check.leavesAlike("restore", Canyons::bare, STATE, canyon -> canyon.restore());
        Check.leavesAlike("restore", Canyons::full, STATE, canyon -> canyon.restore());
        EchoCanyon canyon = Canyons.full();
        Check.due("saved", 6, canyon.save());
        Check.due("restored", 6, canyon.restore());
        Check.due("and once more", 6, canyon.restore());
    }
}
