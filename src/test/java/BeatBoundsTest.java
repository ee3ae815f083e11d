import java.util.NoSuchElementException;

/** The bounds that the terms name, sentence by sentence: shouts, beats, echoes caught, and purchases. */
public final class BeatBoundsTest {
    /** What a sound loses in a beat by the wind from -2 to 2, to greater and to lesser numbers. */
    private static final int[] LOSS_TO_GREATER = {4, 3, 2, 1, 1};
    private static final int[] LOSS_TO_LESSER = {1, 1, 2, 3, 4};

    public static void main(String[] args) {
        shoutAtPlaceOfPlayer();
        fourthOfLoudness();
        roundedDown();
        losesOneAtLeast();
        nothingIsLeft();
        nextPlace();
        noSuchPlace();
        asHighAsAThird();
        thirdIsRoundedDown();
        stillLosesWhenThrownBack();
        pointOfTheWall();
        sidesThrownBack();
        lowerWall();
        atThePlaceOfTheWall();
        ownTeamsWall();
        eachHasItsTurn();
        hoarseForABeatLess();
        loudestThenLowest();
        placeOfThePlayer();
        onceOrTwiceTheLoudness();
        echoIsGone();
        comesNoMore();
        notYetAnEcho();
        toldAhead();
        pricesOfWalls();
        Check.finish();
    }

    /** A canyon with a player of team 0 who has shouted. */
    private static EchoCanyon withShout(int place, boolean isGreater, int loudness) {
        EchoCanyon canyon = new EchoCanyon();
        canyon.player(0, place);
        canyon.shout(0, isGreater, loudness);
        return canyon;
    }

    private static void setWind(EchoCanyon canyon, int wind) {
        if (wind != 0) {
            canyon.wind(wind);
        }
    }

    private static int loss(int wind, boolean isGreater) {
        return isGreater ? LOSS_TO_GREATER[wind + 2] : LOSS_TO_LESSER[wind + 2];
    }

    /** "A shout is a sound at the place of the player." */
    private static void shoutAtPlaceOfPlayer() {
        for (int place = 0; place <= 15; place++) {
            EchoCanyon canyon = withShout(place, place < 8, 5);
            Check.due("place", place, canyon.soundOf(0, 0));
            Check.due("behind no beats", place, canyon.where(0, 0));
            Check.due("not thrown back", 0, canyon.soundOf(0, 3));
            Check.due("no echo", false, canyon.isEcho(0));
        }
    }

    /** "The player is hoarse then for as many beats as a fourth of the loudness, and cannot shout for as long." */
    private static void fourthOfLoudness() {
        int[] hoarse = {0, 0, 0, 1, 1, 1, 1, 2, 2, 2, 2, 3, 3, 3, 3, 4, 4, 4, 4, 5};
        for (int loudness = 1; loudness <= 20; loudness++) {
            EchoCanyon canyon = withShout(8, true, loudness);
            // The other keeps sounds in the canyon, so that beats can go by.
            canyon.player(1, 4);
            for (int beats = hoarse[loudness - 1]; beats > 0; beats--) {
                Check.due("hoarse by " + loudness, beats, canyon.playerOf(0, 2));
                Check.refused("hoarse by " + loudness, canyon, 9, beats, () -> canyon.shout(0, true, 1));
                canyon.shout(1, true, 1);
                canyon.beat();
            }
            Check.due("not hoarse", 0, canyon.playerOf(0, 2));
            Check.due("shouts again", canyon.account(2), canyon.shout(0, true, 1));
            Check.due("shouts", 2, canyon.playerOf(0, 3));
        }
    }

    /** "Divisions are rounded down, unless something else is told." */
    private static void roundedDown() {
        Check.due("a fourth of 3", 0, withShout(8, true, 3).playerOf(0, 2));
        Check.due("a fourth of 4", 1, withShout(8, true, 4).playerOf(0, 2));
        Check.due("a fourth of 19", 4, withShout(8, true, 19).playerOf(0, 2));
        Check.due("a fourth of 20", 5, withShout(8, true, 20).playerOf(0, 2));
        EchoCanyon canyon = withShout(8, true, 2);
        canyon.shout(0, true, 1);
        Check.due("the mean is told otherwise", true, canyon.meanLoudness() == 1.5);
    }

    /** "In a beat, each sound, by its number, first loses loudness: 2, less the wind if it goes to greater numbers, or
     * 2 and the wind if it goes to lesser ones, but 1 at least." */
    private static void losesOneAtLeast() {
        for (int wind = -2; wind <= 2; wind++) {
            EchoCanyon canyon = withShout(8, true, 20);
            canyon.player(0, 8);
            canyon.shout(1, false, 20);
            setWind(canyon, wind);
            Check.due("told, greater, " + wind, 20 - loss(wind, true), canyon.loudIn(0, 1));
            Check.due("told, lesser, " + wind, 20 - loss(wind, false), canyon.loudIn(1, 1));
            canyon.beat();
            Check.due("greater, " + wind, 20 - loss(wind, true), canyon.soundOf(0, 1));
            Check.due("lesser, " + wind, 20 - loss(wind, false), canyon.soundOf(1, 1));
        }
    }

    /** "If nothing is left, it is gone." */
    private static void nothingIsLeft() {
        for (int wind = -2; wind <= 2; wind++) {
            for (int side = 0; side < 2; side++) {
                int loss = loss(wind, side == 1);
                for (int loudness = 1; loudness <= loss + 1; loudness++) {
                    EchoCanyon canyon = withShout(8, side == 1, loudness);
                    setWind(canyon, wind);
                    canyon.wall(side == 1 ? 9 : 7, 9);
                    canyon.own(1, side == 1 ? 9 : 7);
                    boolean isGone = loudness <= loss;
                    Check.due("told", isGone ? 0 : 1, canyon.loudIn(0, 1));
                    Check.due("gone, " + loudness + " less " + loss, isGone ? 1 : 0, canyon.beat());
                    Check.due("left", isGone ? 0 : 1, canyon.account(2));
                    Check.due("the wall got nothing of what is gone", isGone ? 1 : 2, canyon.teamOf(1, 0));
                    Check.due("thrown back", isGone ? 0 : 1, canyon.account(7));
                }
            }
        }
    }

    /** "Otherwise it comes to the next place." */
    private static void nextPlace() {
        for (int place = 0; place <= 15; place++) {
            if (place < 15) {
                EchoCanyon canyon = withShout(place, true, 3);
                Check.due("goes on", 0, canyon.beat());
                Check.due("greater", place + 1, canyon.soundOf(0, 0));
            }
            if (place > 0) {
                EchoCanyon canyon = withShout(place, false, 3);
                Check.due("goes on", 0, canyon.beat());
                Check.due("lesser", place - 1, canyon.soundOf(0, 0));
            }
        }
    }

    /** "If there is no such place, it leaves the canyon and is gone." */
    private static void noSuchPlace() {
        int[] places = {15, 0, 14, 1};
        for (int place : places) {
            EchoCanyon canyon = withShout(place, place > 7, 20);
            int beats = place == 15 || place == 0 ? 1 : 2;
            Check.due("gone in", beats, canyon.goneIn(0));
            Check.due("gone in again", beats, canyon.goneInAgain(0));
            Check.due("loud until then", true, canyon.loudIn(0, beats - 1) > 0);
            Check.due("no longer", 0, canyon.loudIn(0, beats));
            Check.raises("nowhere", canyon, NoSuchElementException.class, () -> canyon.where(0, beats));
            for (int beat = 1; beat <= beats; beat++) {
                Check.due("gone", beat == beats ? 1 : 0, canyon.beat());
            }
        }
        EchoCanyon both = withShout(15, true, 20);
        both.player(0, 0);
        both.shout(1, false, 20);
        Check.due("at both ends at once", 2, both.beat());
    }

    /** "If there is a wall that is as high as a third of its loudness, or higher, the wall throws it back: it stays at
     * the place where it was, goes to the other side, and the team of the wall gets a point." */
    private static void asHighAsAThird() {
        for (int wind = -2; wind <= 2; wind++) {
            for (int side = 0; side < 2; side++) {
                for (int height = 0; height <= 9; height++) {
                    for (int loudness = 1; loudness <= 20; loudness++) {
                        dueBeatAtWall(wind, side == 1, height, loudness);
                    }
                }
            }
        }
    }

    private static void dueBeatAtWall(int wind, boolean isGreater, int height, int loudness) {
        String what = "wind " + wind + ", to greater " + isGreater + ", height " + height + ", loudness " + loudness;
        EchoCanyon canyon = withShout(8, isGreater, loudness);
        setWind(canyon, wind);
        if (height > 0) {
            canyon.wall(isGreater ? 9 : 7, height);
        }
        int left = loudness - loss(wind, isGreater);
        boolean isThrownBack = height > 0 && left <= 3 * height + 2;
        int gone = canyon.beat();
        Check.due(what + ", gone", left <= 0 ? 1 : 0, gone);
        if (gone == 0) {
            int next = isGreater ? 9 : 7;
            Check.due(what + ", place", isThrownBack ? 8 : next, canyon.soundOf(0, 0));
            Check.due(what + ", loudness", isThrownBack ? left : left - height, canyon.soundOf(0, 1));
            Check.due(what + ", side", isThrownBack != isGreater ? 1 : 0, canyon.soundOf(0, 4));
            Check.due(what + ", times", isThrownBack ? 1 : 0, canyon.soundOf(0, 3));
        }
    }

    /** "A third of a loudness is rounded down for this." */
    private static void thirdIsRoundedDown() {
        for (int third = 0; third <= 5; third++) {
            for (int rest = 0; rest < 3; rest++) {
                int left = 3 * third + rest;
                if (left >= 1) {
                    EchoCanyon low = withShout(8, true, left + 2);
                    EchoCanyon high = withShout(8, true, left + 2);
                    if (third > 1) {
                        low.wall(9, third - 1);
                        low.beat();
                        Check.due(left + " goes over one lower than its third", false, low.isEcho(0));
                        Check.due("by the height", left - third + 1, low.soundOf(0, 1));
                    }
                    high.wall(9, Math.max(1, third));
                    high.beat();
                    Check.due(left + " is thrown back by its third", true, high.isEcho(0));
                }
            }
        }
    }

    /** "A sound that is thrown back has lost its loudness of the beat." */
    private static void stillLosesWhenThrownBack() {
        for (int wind = -2; wind <= 2; wind++) {
            EchoCanyon canyon = withShout(8, true, 20);
            setWind(canyon, wind);
            canyon.wall(9, 9);
            canyon.wall(7, 9);
            int loudness = 20;
            for (int beats = 1; beats <= 4; beats++) {
                loudness -= loss(wind, beats % 2 == 1);
                canyon.beat();
                Check.due("wind " + wind + ", behind " + beats, loudness, canyon.soundOf(0, 1));
                Check.due("stays", 8, canyon.soundOf(0, 0));
                Check.due("times", beats, canyon.soundOf(0, 3));
            }
        }
    }

    /** "If there is a wall that is as high as a third of its loudness, or higher, the wall throws it back: it stays at
     * the place where it was, goes to the other side, and the team of the wall gets a point." */
    private static void pointOfTheWall() {
        for (int team = -1; team <= 2; team++) {
            EchoCanyon canyon = withShout(8, true, 20);
            canyon.wall(9, 6);
            if (team >= 0) {
                canyon.own(team, 9);
            }
            canyon.beat();
            for (int other = 0; other <= 2; other++) {
                Check.due("points", other == team ? 5 : 10, canyon.teamOf(other, 0));
            }
            Check.due("thrown back all the same", 1, canyon.account(7));
            Check.due("no points of echoes", 0, canyon.account(8));
            Check.due("even", true, canyon.isEven());
        }
    }

    /** "If there is a wall that is as high as a third of its loudness, or higher, the wall throws it back: it stays at
     * the place where it was, goes to the other side, and the team of the wall gets a point." */
    private static void sidesThrownBack() {
        EchoCanyon canyon = withShout(14, true, 20);
        canyon.wall(15, 9);
        canyon.player(0, 1);
        canyon.shout(1, false, 20);
        canyon.wall(0, 9);
        Check.due("none leaves by walls at the ends", 0, canyon.beat());
        Check.due("stays ahead of the last place", 14, canyon.soundOf(0, 0));
        Check.due("to lesser numbers", 0, canyon.soundOf(0, 4));
        Check.due("stays behind the first place", 1, canyon.soundOf(1, 0));
        Check.due("to greater numbers", 1, canyon.soundOf(1, 4));
    }

    /** "If there is a lower wall, it goes over it, and its loudness becomes less by the height." */
    private static void lowerWall() {
        for (int height = 1; height <= 5; height++) {
            int leastOver = 3 * height + 3 + 2;
            EchoCanyon over = withShout(8, false, leastOver);
            over.wall(7, height);
            over.own(1, 7);
            Check.due("not gone", 0, over.beat());
            Check.due("over", 7, over.soundOf(0, 0));
            Check.due("less by the height", leastOver - 2 - height, over.soundOf(0, 1));
            Check.due("goes on to the same side", 0, over.soundOf(0, 4));
            Check.due("no point", 10 - height, over.teamOf(1, 0));
            EchoCanyon back = withShout(8, false, leastOver - 1);
            back.wall(7, height);
            back.beat();
            Check.due("1 less is thrown back", 8, back.soundOf(0, 0));
            Check.due("and loses no more", leastOver - 3, back.soundOf(0, 1));
        }
    }

    /** "A sound that goes over a wall is at its place then." */
    private static void atThePlaceOfTheWall() {
        EchoCanyon canyon = withShout(5, true, 20);
        canyon.wall(6, 5);
        canyon.wall(7, 9);
        canyon.beat();
        Check.due("at the wall's place", 6, canyon.soundOf(0, 0));
        Check.due("13 are left", 13, canyon.soundOf(0, 1));
        canyon.beat();
        Check.due("thrown back onto the wall it is on", 6, canyon.soundOf(0, 0));
        Check.due("an echo there", 1, canyon.echoesAt(6));
        canyon.beat();
        Check.due("leaves the wall's place free of it", 5, canyon.soundOf(0, 0));
        Check.due("no height lost by that", 9, canyon.soundOf(0, 1));
    }

    /** "A wall throws back sounds of its own team, too, for a point." */
    private static void ownTeamsWall() {
        EchoCanyon canyon = withShout(8, true, 20);
        canyon.wall(9, 9);
        canyon.own(0, 9);
        canyon.beat();
        Check.due("thrown back", true, canyon.isEcho(0));
        Check.due("a point", 2, canyon.teamOf(0, 0));
    }

    /** "Each sound has its turn in a beat, also if one ahead of it is gone by that." */
    private static void eachHasItsTurn() {
        for (int goneSet = 0; goneSet < 256; goneSet++) {
            EchoCanyon canyon = new EchoCanyon();
            canyon.player(0, 7);
            canyon.player(1, 7);
            String due = "";
            for (int sound = 0; sound < 8; sound++) {
                boolean isGone = (goneSet & (1 << sound)) != 0;
                canyon.shout(sound % 2, sound % 3 == 0, isGone ? 1 + sound % 2 : 3);
                due += isGone ? "" : (sound % 3 == 0 ? "8/" : "6/") + sound % 2 + " ";
            }
            Check.due("gone", Integer.bitCount(goneSet), canyon.beat());
            String left = "";
            for (int sound = 0; sound < canyon.account(2); sound++) {
                left += canyon.soundOf(sound, 0) + "/" + canyon.soundOf(sound, 2) + " ";
                Check.due("each has lost 2", 1, canyon.soundOf(sound, 1));
            }
            Check.due("left, without the set " + goneSet, due, left);
        }
    }

    /** "Then each player who is hoarse is so for a beat less." */
    private static void hoarseForABeatLess() {
        EchoCanyon canyon = new EchoCanyon();
        int[] loudnesses = {3, 4, 8, 12, 16, 20};
        for (int player = 0; player < 6; player++) {
            canyon.player(0, 8);
            canyon.shout(player, player % 2 == 0, loudnesses[player]);
        }
        for (int beats = 0; beats <= 6; beats++) {
            for (int player = 0; player < 6; player++) {
                Check.due("hoarse", Math.max(0, player - beats), canyon.playerOf(player, 2));
            }
            canyon.beat();
        }
        EchoCanyon last = withShout(15, true, 4);
        Check.due("the only sound is gone", 1, last.beat());
        Check.due("less also then", 0, last.playerOf(0, 2));
    }

    /** "A player catches an echo that is at the place of the player: the loudest one, of several the lowest." */
    private static void loudestThenLowest() {
        int[][] orders = {{9, 6, 3}, {3, 6, 9}, {6, 9, 3}, {9, 9, 3}, {3, 9, 9}, {9, 3, 9}, {6, 6, 6}};
        int[] caught = {0, 2, 1, 0, 1, 0, 0};
        for (int order = 0; order < orders.length; order++) {
            EchoCanyon canyon = new EchoCanyon();
            canyon.wall(9, 9);
            for (int player = 0; player < 3; player++) {
                canyon.player(player, 8);
                canyon.shout(player, true, orders[order][player]);
            }
            canyon.beat();
            int loudest = orders[order][caught[order]] - 2;
            Check.due("points", caught[order] == 0 ? loudest : 2 * loudest, canyon.catchEcho(0));
            String left = "";
            String due = "";
            for (int sound = 0; sound < 3; sound++) {
                due += sound == caught[order] ? "" : sound + " ";
                left += sound < 2 ? canyon.soundOf(sound, 2) + " " : "";
            }
            Check.due("teams of the sounds left, order " + order, due, left);
        }
    }

    /** "A player catches an echo that is at the place of the player: the loudest one, of several the lowest." */
    private static void placeOfThePlayer() {
        EchoCanyon canyon = withShout(8, true, 20);
        canyon.wall(9, 9);
        canyon.player(0, 7);
        canyon.player(0, 10);
        Check.refused("no echo yet", canyon, 10, 1, () -> canyon.catchEcho(0));
        canyon.beat();
        Check.refused("a place too low", canyon, 10, 0, () -> canyon.catchEcho(1));
        Check.refused("behind the wall", canyon, 10, 0, () -> canyon.catchEcho(2));
        Check.due("its own place", 18, canyon.catchEcho(0));
    }

    /** "The team gets as many points as it is loud, and twice as many if the echo belongs to another team." */
    private static void onceOrTwiceTheLoudness() {
        for (int loudness = 3; loudness <= 20; loudness++) {
            for (int team = 0; team <= 2; team++) {
                EchoCanyon canyon = withShout(8, true, loudness);
                canyon.wall(9, 9);
                canyon.player(team, 8);
                canyon.beat();
                int points = team == 0 ? loudness - 2 : 2 * (loudness - 2);
                Check.due("points", points, canyon.catchEcho(1));
                Check.due("points of the team", 10 + points, canyon.teamOf(team, 0));
                Check.due("caught", 1, canyon.teamOf(team, 4));
                Check.due("of another team", team == 0 ? 0 : 1, canyon.teamOf(team, 5));
                Check.due("points of echoes", points, canyon.account(8));
                Check.due("caught by the player", 1, canyon.playerOf(1, 4));
                Check.due("not by the one who shouted", 0, canyon.playerOf(0, 4));
            }
        }
    }

    /** "The echo is gone." */
    private static void echoIsGone() {
        EchoCanyon canyon = withShout(8, true, 20);
        canyon.wall(9, 9);
        canyon.beat();
        canyon.catchEcho(0);
        Check.due("sounds", 0, canyon.account(2));
        Check.due("of the team", 0, canyon.teamOf(0, 3));
        Check.due("there", 0, canyon.echoesAt(8));
        Check.raises("no such sound", canyon, IndexOutOfBoundsException.class, () -> canyon.isEcho(0));
        Check.refused("no sounds", canyon, 11, 0, () -> canyon.beat());
        Check.refused("not twice", canyon, 10, 0, () -> canyon.catchEcho(0));
    }

    /** "An echo caught comes no more." */
    private static void comesNoMore() {
        EchoCanyon canyon = withShout(8, true, 20);
        canyon.wall(9, 9);
        canyon.player(1, 8);
        canyon.player(1, 5);
        canyon.shout(1, true, 6);
        canyon.beat();
        Check.due("both there", 0, canyon.comes(0));
        Check.due("the loud one comes on", 3, canyon.comes(2));
        canyon.catchEcho(1);
        Check.due("the other is there", 0, canyon.comesAgain(0));
        Check.raises("too quiet", canyon, NoSuchElementException.class, () -> canyon.comes(2));
        Check.raises("too quiet", canyon, NoSuchElementException.class, () -> canyon.comesAgain(2));
        canyon.catchEcho(1);
        Check.raises("none", canyon, NoSuchElementException.class, () -> canyon.comes(0));
        Check.raises("none", canyon, NoSuchElementException.class, () -> canyon.comesAgain(0));
    }

    /** "What comes as an echo may not be one yet." */
    private static void notYetAnEcho() {
        EchoCanyon canyon = withShout(8, true, 20);
        canyon.wall(10, 9);
        Check.due("no echo yet", 0, canyon.account(3));
        Check.due("there as a sound, not as an echo", 3, canyon.comes(0));
        Check.due("there as a sound, not as an echo", 3, canyon.comesAgain(0));
        canyon.player(0, 9);
        Check.due("first as a sound, then as an echo", 2, canyon.comes(1));
        Check.due("first as a sound, then as an echo", 2, canyon.comesAgain(1));
    }

    /** "What a sound does is told ahead as if only beats went by." */
    private static void toldAhead() {
        EchoCanyon canyon = withShout(8, true, 20);
        canyon.wall(10, 9);
        canyon.own(1, 10);
        String before = Check.stateOf(canyon);
        Check.due("where", 8, canyon.where(0, 3));
        Check.due("loud", 14, canyon.loudIn(0, 3));
        Check.due("gone", 10, canyon.goneIn(0));
        Check.due("gone again", 10, canyon.goneInAgain(0));
        Check.due("nothing is changed by telling", before, Check.stateOf(canyon));
        canyon.wind(2);
        Check.due("what changes is told anew", 14, canyon.loudIn(0, 3));
        Check.due("gone earlier against the wind", 7, canyon.goneIn(0));
        canyon.wall(9, 9);
        Check.due("another wall", 8, canyon.where(0, 1));
    }

    /** "A team buys a wall for as many points as it is high if it belongs to none, and for twice as many if it belongs
     * to another team, which gets them." */
    private static void pricesOfWalls() {
        for (int height = 1; height <= 9; height++) {
            EchoCanyon canyon = new EchoCanyon();
            canyon.wall(5, height);
            Check.due("price of none's", height, canyon.price(0, 5));
            Check.due("points left", 10 - height, canyon.own(0, 5));
            Check.due("paid to none", height, canyon.account(9));
            Check.due("price of another's", 2 * height, canyon.price(1, 5));
            Check.due("price of its own", 0, canyon.price(0, 5));
            int lacking = 2 * height - 10;
            if (lacking > 0) {
                Check.refused("too few", canyon, 7, lacking, () -> canyon.own(1, 5));
                Check.raises("no team has enough", canyon, NoSuchElementException.class, () -> canyon.bestTeam(5));
            } else {
                Check.due("points left", -lacking, canyon.own(1, 5));
                Check.due("which gets them", 10 + height, canyon.teamOf(0, 0));
                Check.due("no more paid to none", height, canyon.account(9));
            }
            Check.due("even", true, canyon.isEven());
        }
    }
}
