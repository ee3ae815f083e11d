import java.util.NoSuchElementException;

/** The bounds that the promises name beside their exceptions, sentence by sentence. */
public final class AnswerBoundsTest {
    public static void main(String[] args) {
        nothingAtFirst();
        heightBefore();
        pointsThen();
        threePlacesAtMost();
        soundsThere();
        goneByThat();
        noneAndNoTeam();
        numbersOfTeams();
        numbersOfPlayers();
        oneOrZero();
        setOfEchoes();
        noBeatsAndTwenty();
        zeroIfGone();
        soonestAndLatest();
        goneAmongOthers();
        zeroIfThere();
        firstOfSeveral();
        zeroIfNever();
        forTheFirstTime();
        leastOfSeveral();
        lowestOfSeveral();
        zeroIfItsOwn();
        leftOut();
        ordersOfTeams();
        orderOfSounds();
        pointsTogether();
        newLength();
        lineOfWalls();
        placeOfTheLineBefore();
        lineOfSound();
        emptyAtFirst();
        soFar();
        latestCall();
        earlierSnapshot();
        snapshotIsKept();
        Check.finish();
    }

    private static EchoCanyon with(String text) {
        EchoCanyon canyon = new EchoCanyon();
        Check.run(canyon, text);
        return canyon;
    }

    /** 1: "Creates a canyon without walls, players and sounds." */
    private static void nothingAtFirst() {
        EchoCanyon canyon = new EchoCanyon();
        for (int what = 0; what <= 3; what++) {
            Check.due("none", 0, canyon.account(what));
        }
        for (int place = 0; place <= 15; place++) {
            Check.due("no wall", 0, canyon.wallOf(place, false));
            Check.due("no team", -1, canyon.wallOf(place, true));
        }
        Check.raises("no player", canyon, IndexOutOfBoundsException.class, () -> canyon.playerOf(0, 0));
        Check.raises("no sound", canyon, IndexOutOfBoundsException.class, () -> canyon.soundOf(0, 0));
        Check.raises("nothing to undo", canyon, IllegalStateException.class, () -> canyon.undo());
        Check.raises("no snapshot", canyon, IllegalStateException.class, () -> canyon.restore());
        Check.due("a second one has nothing of the first", 0, twoCanyons().account(0));
    }

    private static EchoCanyon twoCanyons() {
        EchoCanyon first = new EchoCanyon();
        EchoCanyon second = new EchoCanyon();
        first.wall(5, 5);
        return second;
    }

    /** 2: "Returns the height before." */
    private static void heightBefore() {
        EchoCanyon canyon = new EchoCanyon();
        int before = 0;
        int[] heights = {9, 1, 0, 1, 9, 0};
        for (int height : heights) {
            Check.due("before", before, canyon.wall(0, height));
            before = height;
        }
        Check.due("another place has its own", 0, canyon.wall(1, 4));
    }

    /** 3: "Returns how many points the team has then." */
    private static void pointsThen() {
        EchoCanyon canyon = with("w1=9;w2=1;w3=5");
        Check.due("one left", 1, canyon.own(2, 1));
        Check.due("none left", 0, canyon.own(2, 2));
        Check.due("half left", 5, canyon.own(0, 3));
        Check.due("none left", 0, canyon.own(1, 3));
    }

    /** 5: "Moves a player by 3 places at most." */
    private static void threePlacesAtMost() {
        for (int from = 0; from <= 15; from++) {
            for (int to = 0; to <= 15; to++) {
                EchoCanyon canyon = new EchoCanyon();
                canyon.player(0, from);
                int distance = Math.abs(to - from);
                int place = to;
                if (distance == 0) {
                    Check.refused("is there", canyon, 6, from, () -> canyon.move(0, place));
                } else if (distance > 3) {
                    Check.refused("too far", canyon, 8, distance, () -> canyon.move(0, place));
                } else {
                    Check.due("no sounds", 0, canyon.move(0, place));
                    Check.due("there", to, canyon.playerOf(0, 1));
                }
            }
        }
    }

    /** 5: "Returns how many sounds are there." */
    private static void soundsThere() {
        for (int sounds = 0; sounds <= 8; sounds++) {
            EchoCanyon canyon = with("p0@8;p1@5");
            for (int sound = 0; sound < 8; sound++) {
                canyon.shout(sound < sounds ? 0 : 1, true, 3);
            }
            Check.due("of the player's own", sounds, movedAway(canyon).move(0, 8));
        }
    }

    private static EchoCanyon movedAway(EchoCanyon canyon) {
        Check.due("nothing there", 0, canyon.move(0, 11));
        return canyon;
    }

    /** 7: "Returns how many sounds are gone by that." */
    private static void goneByThat() {
        for (int gone = 0; gone <= 8; gone++) {
            EchoCanyon canyon = with("p0@8");
            for (int sound = 0; sound < 8; sound++) {
                canyon.shout(0, true, sound < gone ? 2 : 3);
            }
            Check.due("gone", gone, canyon.beat());
            Check.due("left", 8 - gone, canyon.account(2));
        }
    }

    /** 10: "Returns the height, 0 for none, or the team, -1 for none." */
    private static void noneAndNoTeam() {
        EchoCanyon canyon = with("w0=1;o0@0;w15=9;o2@15;w7=3");
        int[] places = {0, 15, 7, 8};
        int[] heights = {1, 9, 3, 0};
        int[] teams = {0, 2, -1, -1};
        for (int index = 0; index < places.length; index++) {
            Check.due("height", heights[index], canyon.wallOf(places[index], false));
            Check.due("team", teams[index], canyon.wallOf(places[index], true));
        }
    }

    /** 11: "`what`: 0 for the points, 1 for the walls, 2 for the players, 3 for the sounds that belong to it, 4 for the
     * echoes that it caught so far, 5 for those of them that belonged to another team" */
    private static void numbersOfTeams() {
        for (int team = 0; team <= 2; team++) {
            EchoCanyon canyon = new EchoCanyon();
            for (int number = 1; number <= 6; number++) {
                canyon.player(team, 8);
                Check.due("players", number, canyon.teamOf(team, 2));
                canyon.wall(number, 1);
                canyon.own(team, number);
                Check.due("walls", number, canyon.teamOf(team, 1));
                Check.due("points", 10 - number, canyon.teamOf(team, 0));
            }
            canyon.wall(9, 9);
            for (int number = 1; number <= 8; number++) {
                canyon.shout(0, true, 3);
                Check.due("sounds", number, canyon.teamOf(team, 3));
            }
            canyon.beat();
            for (int number = 1; number <= 8; number++) {
                canyon.catchEcho(number % 6);
                Check.due("caught", number, canyon.teamOf(team, 4));
                Check.due("of its own", 0, canyon.teamOf(team, 5));
            }
            for (int what = 1; what <= 5; what++) {
                Check.due("others have none", 0, canyon.teamOf((team + 1) % 3, what));
            }
        }
        EchoCanyon others = with("w9=9;p0@8;p1@8;s1+3;s1+3;s0+3;b");
        others.catchEcho(0);
        others.catchEcho(0);
        others.catchEcho(0);
        Check.due("caught", 3, others.teamOf(0, 4));
        Check.due("of another team", 2, others.teamOf(0, 5));
    }

    /** 12: "`what`: 0 for the team, 1 for the place, 2 for how many beats the player is hoarse, 3 for the shouts so far,
     * 4 for the echoes caught so far" */
    private static void numbersOfPlayers() {
        EchoCanyon canyon = with("w9=9;p2@8;p1@8");
        for (int number = 1; number <= 8; number++) {
            canyon.shout(0, true, 3);
            Check.due("shouts", number, canyon.playerOf(0, 3));
            Check.due("the other's", 0, canyon.playerOf(1, 3));
        }
        canyon.beat();
        for (int number = 1; number <= 8; number++) {
            canyon.catchEcho(1);
            Check.due("caught", number, canyon.playerOf(1, 4));
            Check.due("the other's", 0, canyon.playerOf(0, 4));
        }
        canyon.undo();
        Check.due("undone", 7, canyon.playerOf(1, 4));
    }

    /** 13: "`what`: 0 for its place, 1 for its loudness, 2 for its team, 3 for how often it was thrown back, 4 for 1 if
     * it goes to greater numbers, otherwise 0" */
    private static void oneOrZero() {
        EchoCanyon canyon = with("w9=9;w7=9;p2@8;s0+3;s0-3");
        Check.due("greater", 1, canyon.soundOf(0, 4));
        Check.due("lesser", 0, canyon.soundOf(1, 4));
        canyon.beat();
        Check.due("thrown back to lesser", 0, canyon.soundOf(0, 4));
        Check.due("thrown back to greater", 1, canyon.soundOf(1, 4));
    }

    /** 15: "Returns the set of them, bit k for the sound k." */
    private static void setOfEchoes() {
        for (int set = 0; set < 256; set++) {
            EchoCanyon canyon = with("w9=9;p0@8;p0@10");
            for (int sound = 0; sound < 8; sound++) {
                boolean isEcho = (set & (1 << sound)) != 0;
                canyon.shout(0, isEcho, 3);
            }
            Check.due("none yet", 0, canyon.echoesAt(8));
            canyon.beat();
            Check.due("set", set, canyon.echoesAt(8));
            Check.due("the others are no echoes", 0, canyon.echoesAt(7));
            Check.due("echoes", Integer.bitCount(set), canyon.account(3));
        }
    }

    /** 16: "`beats`: how many, 0 to 20" */
    private static void noBeatsAndTwenty() {
        EchoCanyon canyon = with("v+2;w15=1;p0@0;s0+20");
        Check.due("behind no beats", 0, canyon.where(0, 0));
        Check.due("behind one", 1, canyon.where(0, 1));
        Check.due("ahead of the wall", 14, canyon.where(0, 14));
        Check.due("thrown back", 14, canyon.where(0, 15));
        Check.due("against the wind", 13, canyon.where(0, 16));
        Check.raises("gone", canyon, NoSuchElementException.class, () -> canyon.where(0, 17));
        Check.raises("gone", canyon, NoSuchElementException.class, () -> canyon.where(0, 20));
        Check.raises("too many", canyon, IllegalArgumentException.class, () -> canyon.where(0, 21));
        Check.raises("too few", canyon, IllegalArgumentException.class, () -> canyon.where(0, -1));
    }

    /** 17: "Returns its loudness, 0 if it would be gone." */
    private static void zeroIfGone() {
        EchoCanyon canyon = with("v+2;w15=1;p0@0;s0+20");
        for (int beats = 0; beats <= 15; beats++) {
            Check.due("behind " + beats, 20 - beats, canyon.loudIn(0, beats));
        }
        Check.due("against the wind", 1, canyon.loudIn(0, 16));
        for (int beats = 17; beats <= 20; beats++) {
            Check.due("gone", 0, canyon.loudIn(0, beats));
        }
        EchoCanyon leaving = with("p0@15;s0+20");
        Check.due("there", 20, leaving.loudIn(0, 0));
        Check.due("left", 0, leaving.loudIn(0, 1));
        Check.due("left", 0, leaving.loudIn(0, 20));
    }

    /** 18: "Returns behind how many beats a sound would be gone: by itself alone." */
    private static void soonestAndLatest() {
        dueGone(with("p0@8;s0+1"), 1);
        dueGone(with("p0@8;s0+2"), 1);
        dueGone(with("p0@8;s0+3"), 2);
        dueGone(with("p0@15;s0+20"), 1);
        dueGone(with("p0@0;s0-20"), 1);
        dueGone(with("p0@0;v+2;s0+20"), 16);
        dueGone(with("p0@15;v-2;s0-20"), 16);
        dueGone(with("p0@0;v+2;w15=1;s0+20"), 17);
        dueGone(with("p0@15;v-1;w0=9;s0-20"), 17);
        dueGone(with("p0@8;v-2;s0+20"), 5);
        dueGone(with("p0@8;w7=9;w9=9;s0+20"), 10);
    }

    private static void dueGone(EchoCanyon canyon, int beats) {
        Check.due("gone in", beats, canyon.goneIn(0));
        Check.due("gone in again", beats, canyon.goneInAgain(0));
        for (int beat = 1; beat < beats; beat++) {
            Check.due("not yet", 0, canyon.beat());
        }
        Check.due("gone", 1, canyon.beat());
    }

    /** 19: "Returns the same by a second way: with all sounds, beat by beat." */
    private static void goneAmongOthers() {
        int[] loudnesses = {1, 3, 5, 7, 9, 11};
        for (int turn = 0; turn < 6; turn++) {
            for (int step = 1; step <= 5; step += 4) {
                EchoCanyon canyon = new EchoCanyon();
                for (int sound = 0; sound < 6; sound++) {
                    canyon.player(0, 6);
                    canyon.shout(sound, true, loudnesses[(turn + step * sound) % 6]);
                }
                for (int beats = 0; beats < 6; beats++) {
                    for (int sound = 0; sound < canyon.account(2); sound++) {
                        int left = (canyon.soundOf(sound, 1) + 1) / 2;
                        Check.due("gone in", left, canyon.goneIn(sound));
                        Check.due("gone in again", left, canyon.goneInAgain(sound));
                    }
                    Check.due("one after the other", 1, canyon.beat());
                }
            }
        }
    }

    /** 20: "Returns behind how many, 0 if one is there." */
    private static void zeroIfThere() {
        EchoCanyon canyon = with("w9=9;p0@8;p0@7;p0@6;s0+20");
        int[] due = {1, 2, 3};
        for (int beats = 0; beats <= 3; beats++) {
            for (int player = 0; player < 3; player++) {
                int left = due[player] - beats;
                int told = player;
                if (left >= 0) {
                    Check.due("comes", left, canyon.comes(told));
                    Check.due("comes again", left, canyon.comesAgain(told));
                } else {
                    Check.raises("past", canyon, NoSuchElementException.class, () -> canyon.comes(told));
                    Check.raises("past", canyon, NoSuchElementException.class, () -> canyon.comesAgain(told));
                }
            }
            canyon.beat();
        }
        EchoCanyon late = with("v+2;w15=1;p0@0;p1@14;p1@13;s0+20");
        Check.due("late", 15, late.comes(1));
        Check.due("the latest", 16, late.comes(2));
        Check.due("the latest", 16, late.comesAgain(2));
    }

    /** 21: "Returns the same by a second way: sound by sound." */
    private static void firstOfSeveral() {
        int[][] orders = {{0, 1, 2}, {0, 2, 1}, {1, 0, 2}, {1, 2, 0}, {2, 0, 1}, {2, 1, 0}};
        for (int[] order : orders) {
            EchoCanyon canyon = with("w9=9;p0@8;p0@7;p0@6;p1@8;p1@10");
            canyon.shout(4, true, 20);
            for (int player : order) {
                canyon.shout(player, true, 20);
            }
            Check.due("from 8", 1, canyon.comes(3));
            Check.due("from 8", 1, canyon.comesAgain(3));
            canyon.beat();
            canyon.catchEcho(3);
            Check.due("from 7", 1, canyon.comes(3));
            Check.due("from 7", 1, canyon.comesAgain(3));
            canyon.beat();
            canyon.catchEcho(3);
            Check.due("from 6", 1, canyon.comes(3));
            Check.due("from 6", 1, canyon.comesAgain(3));
            canyon.beat();
            canyon.catchEcho(3);
            Check.raises("none", canyon, NoSuchElementException.class, () -> canyon.comes(3));
            Check.raises("none", canyon, NoSuchElementException.class, () -> canyon.comesAgain(3));
        }
    }

    /** 22: "Returns its loudness then, 0 if it never would be." */
    private static void zeroIfNever() {
        EchoCanyon canyon = with("w9=9;p0@8;p0@6");
        for (int loudness = 1; loudness <= 20; loudness++) {
            Check.due("near", Math.max(0, loudness - 2), canyon.returns(0, true, loudness));
            Check.due("far", Math.max(0, loudness - 10), canyon.returns(1, true, loudness));
            Check.due("no wall", 0, canyon.returns(0, false, loudness));
        }
        Check.due("no sound by that", 0, canyon.account(2));
        Check.due("no shout by that", 0, canyon.playerOf(0, 3));
    }

    /** 22: "Returns how loud a shout would be when it was at the place of the player as an echo for the first time." */
    private static void forTheFirstTime() {
        EchoCanyon canyon = with("w9=9;w7=9;p0@8");
        Check.due("by the first wall", 18, canyon.returns(0, true, 20));
        Check.due("by the first wall", 18, canyon.returns(0, false, 20));
        EchoCanyon edge = with("w1=2;w0=9;p0@2;p1@4");
        Check.due("over a wall, and off it again", 12, edge.returns(0, false, 20));
        Check.due("from farther, by the lower wall", 2, edge.returns(1, false, 12));
        Check.due("not by either", 0, edge.returns(1, false, 10));
    }

    /** 23: "Returns the loudness with which a shout would be the loudest when it returned, of several the least." */
    private static void leastOfSeveral() {
        for (int height = 1; height <= 9; height++) {
            // What is left by the first beat must not be more than three times the height and 2.
            EchoCanyon canyon = with("w9=" + height + ";p0@8");
            Check.due("height " + height, Math.min(20, 3 * height + 4), canyon.bestLoudness(0, true));
        }
        EchoCanyon just = with("w13=9;p0@8;p0@9");
        Check.due("none but the loudest", 20, just.bestLoudness(0, true));
        Check.due("which is as quiet as can be", 2, just.returns(0, true, 20));
        EchoCanyon several = with("p0@5;w6=3;w7=9");
        Check.due("with 13", 11, several.returns(0, true, 13));
        Check.due("with 20", 11, several.returns(0, true, 20));
        Check.due("the least of both", 13, several.bestLoudness(0, true));
    }

    /** 24: "Returns the team for which the wall at a place would leave the most points if it bought it, of several the
     * lowest; a team to which it belongs, or that has too few points, is none of them." */
    private static void lowestOfSeveral() {
        EchoCanyon canyon = with("w5=5");
        Check.due("all alike", 0, canyon.bestTeam(5));
        canyon.own(0, 5);
        Check.due("not the owner; just enough", 1, canyon.bestTeam(5));
        canyon.own(1, 5);
        Check.due("team 0 has more", 0, canyon.bestTeam(5));
        Check.run(canyon, "w6=5;o0@6;w7=5;o0@7;w8=1;o0@8");
        Check.due("team 0 has 4, team 2 just 10", 2, canyon.bestTeam(5));
        Check.run(canyon, "w9=1;o2@9");
        Check.raises("9 of 10", canyon, NoSuchElementException.class, () -> canyon.bestTeam(5));
        canyon.wall(5, 2);
        Check.due("team 2 has the most", 2, canyon.bestTeam(5));
    }

    /** 25: "Returns how many points, 0 if it belongs to it." */
    private static void zeroIfItsOwn() {
        EchoCanyon canyon = with("w5=9");
        for (int team = 0; team <= 2; team++) {
            Check.due("of none", 9, canyon.price(team, 5));
        }
        canyon.own(1, 5);
        int[] prices = {18, 0, 18};
        for (int team = 0; team <= 2; team++) {
            Check.due("of team 1", prices[team], canyon.price(team, 5));
        }
        canyon.wall(5, 1);
        Check.due("the price goes with the height", 2, canyon.price(0, 5));
        Check.due("its own", 0, canyon.price(1, 5));
    }

    /** 26: "Returns the next wall from a place to one side, that place left out." */
    private static void leftOut() {
        for (int from = 0; from <= 15; from++) {
            for (int at = 0; at <= 15; at++) {
                EchoCanyon canyon = new EchoCanyon();
                canyon.wall(at, 1);
                int place = from;
                for (int side = 0; side < 2; side++) {
                    boolean isGreater = side == 1;
                    if (isGreater ? at > from : at < from) {
                        Check.due("the only one", at, canyon.nextWall(place, isGreater));
                    } else {
                        Check.raisesOnly("none", NoSuchElementException.class,
                                () -> canyon.nextWall(place, isGreater));
                    }
                }
            }
        }
        EchoCanyon several = with("w5=1;w6=1;w7=1;w9=1");
        Check.due("the next of several", 6, several.nextWall(5, true));
        Check.due("the next of several", 6, several.nextWall(7, false));
        Check.due("over places without", 9, several.nextWall(7, true));
        Check.due("over places without", 7, several.nextWall(9, false));
    }

    /** 27: "Returns a team by a measure: the greatest first, of several the lowest." */
    private static void ordersOfTeams() {
        for (int number = 0; number < 64; number++) {
            EchoCanyon canyon = new EchoCanyon();
            int[] walls = {number % 4, number / 4 % 4, number / 16};
            int place = 0;
            for (int team = 0; team <= 2; team++) {
                for (int wall = 0; wall < walls[team]; wall++) {
                    canyon.wall(place, 1);
                    canyon.own(team, place);
                    place++;
                }
            }
            int[] left = {10 - walls[0], 10 - walls[1], 10 - walls[2]};
            dueOrder(canyon, 0, left);
            dueOrder(canyon, 1, walls);
            dueOrder(canyon, 2, walls);
            dueOrder(canyon, 3, new int[3]);
        }
        EchoCanyon heights = with("w1=9;o2@1;w2=1;w3=1;o0@2;o0@3;w4=2;o1@4");
        dueOrder(heights, 1, new int[] {2, 1, 1});
        dueOrder(heights, 2, new int[] {2, 2, 9});
        EchoCanyon caught = with("w9=9;p0@8;p1@8;p2@8;s0+3;s0+3;s0+3;b;c2;c1;c2");
        dueOrder(caught, 3, new int[] {0, 1, 2});
        dueOrder(caught, 0, new int[] {10, 12, 14});
    }

    private static void dueOrder(EchoCanyon canyon, int measure, int[] numbers) {
        boolean[] isPlaced = new boolean[3];
        for (int place = 0; place < 3; place++) {
            int best = -1;
            for (int team = 0; team <= 2; team++) {
                if (!isPlaced[team] && (best < 0 || numbers[team] > numbers[best])) {
                    best = team;
                }
            }
            isPlaced[best] = true;
            Check.due("measure " + measure + ", place " + place, best, canyon.ranked(measure, place));
        }
    }

    /** 28: "Returns a sound by its loudness: the loudest first, of several echoes ahead of others, then the lowest." */
    private static void orderOfSounds() {
        for (int set = 0; set < 64; set++) {
            EchoCanyon canyon = with("w9=9;p0@8");
            int[] measure = new int[6];
            for (int sound = 0; sound < 6; sound++) {
                boolean isEcho = (set & (1 << sound)) != 0;
                measure[sound] = isEcho ? 1 : 0;
                canyon.shout(0, isEcho, 3);
            }
            canyon.beat();
            dueSoundOrder(canyon, measure);
        }
        for (int set = 0; set < 64; set++) {
            EchoCanyon canyon = with("w9=9;p0@8;p0@8;p0@8;p0@8;p0@8;p0@8");
            int[] measure = new int[6];
            for (int sound = 0; sound < 6; sound++) {
                boolean isEcho = (set & (1 << sound)) != 0;
                int loudness = 5 + (set / 7 + sound * sound) % 4;
                measure[sound] = 2 * (loudness - 2) + (isEcho ? 1 : 0);
                canyon.shout(sound, isEcho, loudness);
            }
            canyon.beat();
            dueSoundOrder(canyon, measure);
        }
    }

    private static void dueSoundOrder(EchoCanyon canyon, int[] measure) {
        boolean[] isPlaced = new boolean[measure.length];
        for (int place = 0; place < measure.length; place++) {
            int best = -1;
            for (int sound = 0; sound < measure.length; sound++) {
                if (!isPlaced[sound] && (best < 0 || measure[sound] > measure[best])) {
                    best = sound;
                }
            }
            isPlaced[best] = true;
            Check.due("place " + place, best, canyon.loudest(place));
        }
    }

    /** 29: "Returns whether the points of all teams are those that they had at first, those that echoes brought and those
     * that walls brought, together, less those paid for walls that belonged to none." */
    private static void pointsTogether() {
        EchoCanyon canyon = new EchoCanyon();
        String[] texts = {"w9=5", "o0@9", "o1@9", "w9=0", "w9=9;p0@8;p2@8;s0+20", "o0@9", "b", "c1", "s1+20", "b", "c0"};
        int[] points = {30, 25, 25, 25, 25, 16, 17, 53, 53, 54, 90};
        for (int index = 0; index < texts.length; index++) {
            try {
                Check.run(canyon, texts[index]);
            } catch (UnsupportedOperationException tooFewPoints) {
                Check.due("too few points alone", 7, canyon.reason(0));
            }
            int sum = canyon.teamOf(0, 0) + canyon.teamOf(1, 0) + canyon.teamOf(2, 0);
            Check.due(texts[index], points[index], sum);
            Check.due("even", true, canyon.isEven());
        }
        while (canyon.account(10) > 0) {
            canyon.undo();
            Check.due("even", true, canyon.isEven());
        }
    }

    /** 30: "Returns the new length of the buffer." */
    private static void newLength() {
        EchoCanyon canyon = new EchoCanyon();
        Check.due("empty", 0, canyon.account(11));
        for (int length = 1; length <= 60; length++) {
            Check.due("length", length, canyon.append('b'));
            Check.due("account", length, canyon.account(11));
        }
    }

    /** 34: "Writes the canyon, in place of the line before: for each place the height of its wall, and the letter "a",
     * "b" or "c" of the team to which it belongs behind it, if it belongs to one, or "." without a wall." */
    private static void lineOfWalls() {
        for (int team = -1; team <= 2; team++) {
            for (int height = 0; height <= 9; height++) {
                for (int place = 0; place <= 15; place += 15) {
                    EchoCanyon canyon = new EchoCanyon();
                    String wall = ".";
                    if (height > 0) {
                        canyon.wall(place, height);
                        wall = "" + height;
                        if (team >= 0) {
                            canyon.own(team, place);
                            wall += "abc".charAt(team);
                        }
                    }
                    String due = place == 0 ? wall + ".".repeat(15) : ".".repeat(15) + wall;
                    Check.due("length", due.length(), canyon.line());
                    Check.due("line", due, Check.lineOf(canyon));
                }
            }
        }
    }

    /** 34: "Writes the canyon, in place of the line before: for each place the height of its wall, and the letter "a",
     * "b" or "c" of the team to which it belongs behind it, if it belongs to one, or "." without a wall." */
    private static void placeOfTheLineBefore() {
        EchoCanyon canyon = with("w0=4;o0@0;p1@7;s0+20");
        String walls = "4a...............";
        for (int times = 0; times < 3; times++) {
            Check.due("longer by the team", 17, canyon.line());
            Check.due("line", walls, Check.lineOf(canyon));
            Check.due("length", 5, canyon.soundLine(0));
            Check.due("shorter than before", "7>20b", Check.lineOf(canyon));
            canyon.line();
            Check.due("longer than before", 17, canyon.line());
        }
        canyon.wall(0, 0);
        Check.due("not written anew by a change", walls, Check.lineOf(canyon));
        Check.due("shorter", 16, canyon.line());
        Check.due("line", ".".repeat(16), Check.lineOf(canyon));
    }

    /** 35: "Writes a sound, in place of the line before: its place, ">" or "<" for where it goes, its loudness, the
     * letter of its team, and "!" if it is an echo; as in "7<12b!"." */
    private static void lineOfSound() {
        for (int place = 0; place <= 15; place++) {
            for (int loudness = 1; loudness <= 20; loudness++) {
                int team = loudness % 3;
                boolean isGreater = (place + loudness) % 2 == 0;
                EchoCanyon canyon = new EchoCanyon();
                canyon.line();
                canyon.player(team, place);
                canyon.shout(0, isGreater, loudness);
                String due = place + (isGreater ? ">" : "<") + loudness + "abc".charAt(team);
                Check.due("length", due.length(), canyon.soundLine(0));
                Check.due("line", due, Check.lineOf(canyon));
            }
        }
        EchoCanyon canyon = with("w8=9;p1@7;s0+14;b");
        Check.due("length", 6, canyon.soundLine(0));
        Check.due("line", "7<12b!", Check.lineOf(canyon));
        EchoCanyon longest = with("w9=9;p2@10;v+2;s0-20;b");
        Check.due("length", 7, longest.soundLine(0));
        Check.due("line", "10>16c!", Check.lineOf(longest));
    }

    /** 36: "Returns a character of the line, which is empty at first." */
    private static void emptyAtFirst() {
        EchoCanyon canyon = with("p0@0;s0+3");
        Check.raises("empty", canyon, IndexOutOfBoundsException.class, () -> canyon.character(0));
        canyon.soundLine(0);
        Check.due("first", '0', canyon.character(0));
        Check.due("last", 'a', canyon.character(3));
        Check.raises("behind the last", canyon, IndexOutOfBoundsException.class, () -> canyon.character(4));
        Check.raises("ahead of the first", canyon, IndexOutOfBoundsException.class, () -> canyon.character(-1));
        Check.raises("no sound, the line stays", canyon, IndexOutOfBoundsException.class,
                () -> canyon.soundLine(1));
    }

    /** 39: "`what`: 0 for the walls, 1 for the players, 2 for the sounds, 3 for the echoes, 4 for the wind, 5 for the
     * beats so far, 6 for the shouts so far, 7 for how often sounds were thrown back so far, 8 for the points that
     * echoes brought so far, 9 for the points paid for walls that belonged to none so far, 10 for the changes that can
     * be undone, 11 for the characters in the text buffer" */
    private static void soFar() {
        EchoCanyon canyon = with("w9=9;w7=9;p0@8;p1@8;o0@9");
        dueAccounts(canyon, "2 2 0 0 0 0 0 0 0 9 1 0 ");
        canyon.wall(0, 1);
        canyon.own(1, 0);
        dueAccounts(canyon, "3 2 0 0 0 0 0 0 0 10 3 0 ");
        canyon.own(2, 0);
        dueAccounts(canyon, "3 2 0 0 0 0 0 0 0 10 4 0 ");
        canyon.shout(0, true, 3);
        canyon.shout(0, true, 20);
        dueAccounts(canyon, "3 2 2 0 0 0 2 0 0 10 6 0 ");
        canyon.beat();
        dueAccounts(canyon, "3 2 2 2 0 1 2 2 0 10 7 0 ");
        canyon.beat();
        dueAccounts(canyon, "3 2 1 1 0 2 2 3 0 10 8 0 ");
        canyon.catchEcho(1);
        dueAccounts(canyon, "3 2 0 0 0 2 2 3 32 10 8 0 ");
        canyon.append('v');
        canyon.wind(-2);
        canyon.wall(0, 0);
        dueAccounts(canyon, "2 2 0 0 -2 2 2 3 32 10 8 1 ");
        canyon.undo();
        canyon.undo();
        canyon.undo();
        dueAccounts(canyon, "3 2 1 1 0 2 2 3 0 10 5 1 ");
        canyon.undo();
        canyon.undo();
        dueAccounts(canyon, "3 2 2 0 0 0 2 0 0 10 3 1 ");
    }

    private static void dueAccounts(EchoCanyon canyon, String due) {
        StringBuilder accounts = new StringBuilder();
        for (int what = 0; what <= 11; what++) {
            accounts.append(canyon.account(what)).append(' ');
        }
        Check.due("accounts", due, accounts.toString());
    }

    /** 40: "Undoes the latest call that can be undone." */
    private static void latestCall() {
        EchoCanyon canyon = with("w1=1;w2=2");
        canyon.wall(3, 3);
        canyon.line();
        canyon.save();
        Check.raisesOnly("refused", UnsupportedOperationException.class, () -> canyon.wall(3, 3));
        Check.due("the last wall alone", 1, canyon.undo());
        Check.due("walls", 2, canyon.account(0));
        Check.due("both of the text", 0, canyon.undo());
        Check.due("walls", 0, canyon.account(0));
        Check.due("an undone call is not kept again", 0, canyon.account(10));
    }

    /** 41: "Saves all that can be undone, in place of an earlier snapshot." */
    private static void earlierSnapshot() {
        EchoCanyon canyon = new EchoCanyon();
        for (int players = 0; players <= 6; players++) {
            Check.due("saved", players, canyon.save());
            if (players < 6) {
                canyon.player(players % 3, players);
            }
        }
        canyon.undo();
        canyon.undo();
        Check.due("the latest", 6, canyon.restore());
        EchoCanyon other = Canyons.played();
        other.save();
        String saved = Check.undoableOf(other);
        other.beat();
        other.catchEcho(1);
        other.wind(-2);
        other.restore();
        Check.due("all of it", saved, Check.undoableOf(other));
    }

    /** 42: "Restores what was saved; the snapshot is kept." */
    private static void snapshotIsKept() {
        EchoCanyon canyon = Canyons.full();
        String saved = Check.undoableOf(canyon);
        canyon.save();
        for (int times = 0; times < 3; times++) {
            Check.due("kept", 6, canyon.restore());
            Check.due("as saved", saved, Check.undoableOf(canyon));
            Check.due("none can be undone", 0, canyon.account(10));
            canyon.beat();
            canyon.move(0, 3);
            canyon.wall(5, 1);
            canyon.wall(12, 1 + times);
            Check.due("what comes behind it can", 3, canyon.undo());
        }
    }
}
