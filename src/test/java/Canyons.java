/** Canyons to test calls on, each made anew and alike by each call. */
final class Canyons {
    private Canyons() {
    }

    /** Nothing has happened. */
    static EchoCanyon bare() {
        return new EchoCanyon();
    }

    /** All that there can be: six players, eight sounds, eight changes, sixty characters; no snapshot. */
    static EchoCanyon full() {
        EchoCanyon canyon = new EchoCanyon();
        canyon.wall(5, 9);
        Check.run(canyon, "o0@5;p0@4;p1@4;p2@8;p0@9;p1@0;p2@15");
        for (int player = 0; player < 6; player++) {
            canyon.shout(player, player % 2 == 0, 20 - player);
        }
        Check.run(canyon, "v+1;v+0;b;v-1;v+0;v+2;v+0");
        for (int player = 0; canyon.account(2) < 8; player = 1 - player) {
            while (canyon.playerOf(player, 2) > 0) {
                canyon.beat();
            }
            canyon.shout(player, true, 3);
        }
        Check.type(canyon, "v+1;v-1;v+1;v-1;v+1;v-1;v+1;v-1;v+1;v-1;v+1;v-1;v+1;v-1;w1=1");
        return canyon;
    }

    /**
     * Some of all: three players at 8, 7 and 2, the first one hoarse, two sounds of team 0 and one of team 1, the first
     * of them an echo at 8, the wall at 9 team 1's and the one at 5 team 2's, the wind 1, a snapshot, a line, a fault, a
     * reason, and a text.
     */
    static EchoCanyon played() {
        return played("w0=3;v-2");
    }

    static EchoCanyon played(String text) {
        EchoCanyon canyon = new EchoCanyon();
        canyon.wall(9, 9);
        canyon.wall(5, 4);
        canyon.wall(11, 2);
        canyon.own(1, 9);
        canyon.own(2, 5);
        Check.run(canyon, "p0@8;p1@7;p2@2");
        canyon.line();
        canyon.save();
        canyon.wall(14, 3);
        canyon.wall(12, 1);
        canyon.shout(0, true, 20);
        canyon.shout(1, false, 15);
        canyon.beat();
        canyon.wind(1);
        canyon.shout(2, false, 3);
        canyon.soundLine(0);
        Check.raisesOnly("a reason", UnsupportedOperationException.class, () -> Check.run(canyon, "b;m0>4"));
        Check.raisesOnly("a fault", IllegalArgumentException.class, () -> Check.run(canyon, "v+"));
        Check.type(canyon, text);
        return canyon;
    }

    /** A player at 8, and none of the sounds, walls and changes that there once were. */
    static EchoCanyon quiet() {
        EchoCanyon canyon = new EchoCanyon();
        Check.run(canyon, "p0@8;w9=9;s0+3;b;c0;w9=0");
        canyon.save();
        canyon.restore();
        return canyon;
    }
}
