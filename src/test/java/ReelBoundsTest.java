/** Promises 1 to 7 at their bounds: a test for each sentence that names one, just within it and just beyond it. */
final class ReelBoundsTest {
    private static final int[] FIRST = {40, 60, 20, 20, 10, 30, 100, 4};

    private static ReelChanger withSixSplices() {
        ReelChanger room = Due.withReels(100);
        for (int i = 1; i <= 6; i++) {
            Due.due("splice", room.splice(0, 10 * i, 5), i);
        }
        return room;
    }

    private static ReelChanger withTenReels() {
        return Due.withReels(100, 101, 102, 103, 104, 105, 106, 107, 108, 109);
    }

    /** "without reels, with an empty program and text, and with empty slots" */
    static void promise01NothingIsThere() {
        ReelChanger room = new ReelChanger();
        Due.due("reel(0, 0)", room.reel(0, 0), Due.BAD_INDEX);
        Due.due("program(0)", room.program(0), Due.BAD_INDEX);
        Due.due("faultPosition()", room.faultPosition(), 0);
        Due.due("faultDepth()", room.faultDepth(), 0);
        Due.due("setProgram()", room.setProgram(), Due.NOT_POSSIBLE);
        Due.due("begin()", room.begin(), Due.NOT_POSSIBLE);
        Due.due("restore(0)", room.restore(0), Due.NOT_POSSIBLE);
        Due.due("restore(1)", room.restore(1), Due.NOT_POSSIBLE);
        Due.due("clearText()", room.clearText(), 0);
        Due.due("save(0)", room.save(0), 0);
    }

    /** "no show has begun, and both projectors are EMPTY" */
    static void promise01NoShowHasBegun() {
        ReelChanger room = new ReelChanger();
        Due.dueAll("told", Due.told(room), 0, 0, 0, 0, 0, 0, 0, 0, 0, 0);
        Due.dueAll("projector 0", Due.onProjector(room, 0), ReelChanger.EMPTY, Due.NONE, Due.NONE);
        Due.dueAll("projector 1", Due.onProjector(room, 1), ReelChanger.EMPTY, Due.NONE, Due.NONE);
        Due.due("task(0, 0)", room.task(0, 0), Due.BAD_INDEX);
        Due.due("task(1, 0)", room.task(1, 0), Due.BAD_INDEX);
        Due.due("pass(1)", room.pass(1), Due.NOT_POSSIBLE);
        Due.due("forecast(0)", room.forecast(0), Due.NOT_POSSIBLE);
        Due.due("darkWith(0, 40)", room.darkWith(0, 40), Due.NOT_POSSIBLE);
    }

    /** "An object is used for at most 512 calls": the last of them is as the first. */
    static void promise01TheLastOf512Calls() {
        ReelChanger room = new ReelChanger();
        room.makeReel(3000);
        room.append('0');
        room.setProgram();
        room.begin();
        for (int call = 5; call < 512; call++) {
            Due.due("forecast, call " + call, room.forecast(0), 3000);
        }
        Due.due("call 512", room.pass(1), 1);
    }

    /** "There are at most 10 reels, numbered from 0 in the order in which they are made." */
    static void promise02TheTenthReelIsTheLast() {
        ReelChanger room = new ReelChanger();
        for (int i = 0; i < 9; i++) {
            Due.due("makeReel", room.makeReel(100 + i), i);
        }
        Due.due("reel 9 is none yet", room.reel(9, 0), Due.BAD_INDEX);
        Due.due("the 10th", room.makeReel(200), 9);
        Due.due("reel 9", room.reel(9, 0), 200);
        Due.due("the 11th", room.makeReel(300), Due.FULL);
        Due.due("the 11th again", room.makeReel(300), Due.FULL);
        Due.due("reel 10", room.reel(10, 0), Due.BAD_INDEX);
        Due.due("reel 0", room.reel(0, 0), 100);
        Due.due("reel 8", room.reel(8, 0), 108);
        Due.due("reel 9 stays", room.reel(9, 0), 200);
    }

    /** "A reel has a length of 100 to 3000 frames": the least. */
    static void promise02TheShortestReel() {
        ReelChanger room = new ReelChanger();
        Due.due("99", room.makeReel(99), Due.BAD_VALUE);
        Due.due("100", room.makeReel(100), 0);
        Due.due("101", room.makeReel(101), 1);
        Due.due("its length", room.reel(0, 0), 100);
        for (int length : new int[] {Integer.MIN_VALUE, -3000, -100, -1, 0, 1}) {
            Due.due("far " + length, room.makeReel(length), Due.BAD_VALUE);
        }
    }

    /** "A reel has a length of 100 to 3000 frames": the most. */
    static void promise02TheLongestReel() {
        ReelChanger room = new ReelChanger();
        Due.due("3001", room.makeReel(3001), Due.BAD_VALUE);
        Due.due("3000", room.makeReel(3000), 0);
        Due.due("2999", room.makeReel(2999), 1);
        Due.due("its length", room.reel(0, 0), 3000);
        Due.due("far", room.makeReel(Integer.MAX_VALUE), Due.BAD_VALUE);
    }

    /** "Returns the number of the new reel; BAD_VALUE; FULL if there are 10", in this order. */
    static void promise02AWrongLengthIsToldAheadOfFull() {
        ReelChanger room = withTenReels();
        Due.due("99", room.makeReel(99), Due.BAD_VALUE);
        Due.due("3001", room.makeReel(3001), Due.BAD_VALUE);
        Due.due("100", room.makeReel(100), Due.FULL);
        Due.due("3000", room.makeReel(3000), Due.FULL);
    }

    /** "at most 6 splices": "FULL if it has 6, and none at this frame" */
    static void promise03TheSixthSpliceIsTheLast() {
        ReelChanger room = Due.withReels(100, 100);
        for (int i = 1; i <= 5; i++) {
            room.splice(0, i, 9);
        }
        Due.due("the 6th", room.splice(0, 50, 9), 6);
        Due.due("the 7th", room.splice(0, 51, 9), Due.FULL);
        Due.due("how many", room.reel(0, 1), 6);
        Due.due("the other reel has room", room.splice(1, 51, 9), 1);
        room.splice(0, 50, 1);
        Due.due("mend", room.mend(0, 2), 1);
        Due.due("a 6th again", room.splice(0, 51, 9), 6);
        Due.due("a 7th again", room.splice(0, 50, 9), Due.FULL);
    }

    /** "each at a frame from 1": the least. */
    static void promise03TheFirstFrame() {
        ReelChanger room = Due.withReels(100);
        Due.due("frame 0", room.splice(0, 0, 1), Due.BAD_VALUE);
        Due.due("frame 1", room.splice(0, 1, 1), 1);
        Due.due("frame 2", room.splice(0, 2, 1), 2);
        Due.due("frame -1", room.splice(0, -1, 1), Due.BAD_VALUE);
        Due.due("far", room.splice(0, Integer.MIN_VALUE, 1), Due.BAD_VALUE);
        Due.dueAll("splices", Due.splices(room, 0), 1, 1, 2, 1);
    }

    /** "to its length - 1": the most, of each reel its own. */
    static void promise03TheLastFrame() {
        ReelChanger room = Due.withReels(100, 3000);
        Due.due("frame 100 of 100", room.splice(0, 100, 1), Due.BAD_VALUE);
        Due.due("frame 99 of 100", room.splice(0, 99, 1), 1);
        Due.due("frame 98 of 100", room.splice(0, 98, 1), 2);
        Due.due("frame 100 of 3000", room.splice(1, 100, 1), 1);
        Due.due("frame 3000 of 3000", room.splice(1, 3000, 1), Due.BAD_VALUE);
        Due.due("frame 2999 of 3000", room.splice(1, 2999, 1), 2);
        Due.due("frame 2998 of 3000", room.splice(1, 2998, 1), 3);
        Due.due("far", room.splice(1, Integer.MAX_VALUE, 1), Due.BAD_VALUE);
        Due.dueAll("splices", Due.splices(room, 0), 98, 1, 99, 1);
    }

    /** "no two at the same one": "gives the one at this frame another strength" */
    static void promise03NoTwoAtTheSameFrame() {
        ReelChanger room = Due.withReels(100);
        Due.due("frame 50", room.splice(0, 50, 5), 1);
        Due.due("frame 50 again", room.splice(0, 50, 3), 1);
        Due.due("frame 49", room.splice(0, 49, 1), 2);
        Due.due("frame 51", room.splice(0, 51, 9), 3);
        Due.due("frame 50 again", room.splice(0, 50, 3), 3);
        Due.dueAll("splices", Due.splices(room, 0), 49, 1, 50, 3, 51, 9);
    }

    /** "with a strength from 1 to 9" */
    static void promise03TheStrengths() {
        ReelChanger room = Due.withReels(100);
        Due.due("0", room.splice(0, 50, 0), Due.BAD_VALUE);
        Due.due("1", room.splice(0, 50, 1), 1);
        Due.due("it is 1", room.spliceAt(0, 0, true), 1);
        Due.due("2", room.splice(0, 50, 2), 1);
        Due.due("10", room.splice(0, 50, 10), Due.BAD_VALUE);
        Due.due("it is 2", room.spliceAt(0, 0, true), 2);
        Due.due("8", room.splice(0, 50, 8), 1);
        Due.due("9", room.splice(0, 50, 9), 1);
        Due.due("it is 9", room.spliceAt(0, 0, true), 9);
        Due.due("far below", room.splice(0, 50, Integer.MIN_VALUE), Due.BAD_VALUE);
        Due.due("far above", room.splice(0, 50, Integer.MAX_VALUE), Due.BAD_VALUE);
    }

    /** "FULL if it has 6, and none at this frame": one at this frame is given another strength. */
    static void promise03AFullReelTakesAnotherStrength() {
        ReelChanger room = withSixSplices();
        Due.due("the first", room.splice(0, 10, 1), 6);
        Due.due("the last", room.splice(0, 60, 9), 6);
        Due.due("a frame ahead of the first", room.splice(0, 9, 1), Due.FULL);
        Due.due("a frame behind the first", room.splice(0, 11, 1), Due.FULL);
        Due.due("a frame ahead of the last", room.splice(0, 59, 1), Due.FULL);
        Due.due("a frame behind the last", room.splice(0, 61, 1), Due.FULL);
        Due.dueAll("splices", Due.splices(room, 0), 10, 1, 20, 5, 30, 5, 40, 5, 50, 5, 60, 9);
    }

    /** "reel: a reel": those that there are, from 0 up to the last. */
    static void promise03TheReels() {
        ReelChanger room = Due.withReels(100, 100);
        Due.due("reel -1", room.splice(-1, 1, 1), Due.BAD_INDEX);
        Due.due("reel 0", room.splice(0, 1, 1), 1);
        Due.due("reel 1", room.splice(1, 1, 1), 1);
        Due.due("reel 2", room.splice(2, 1, 1), Due.BAD_INDEX);
        ReelChanger full = withTenReels();
        Due.due("reel 9", full.splice(9, 1, 1), 1);
        Due.due("reel 10", full.splice(10, 1, 1), Due.BAD_INDEX);
        Due.due("no reels", new ReelChanger().splice(0, 1, 1), Due.BAD_INDEX);
    }

    /** "BAD_INDEX; BAD_VALUE; FULL", in this order. */
    static void promise03TheOrderOfErrors() {
        ReelChanger room = withSixSplices();
        Due.due("no reel, no frame, no strength", room.splice(1, 0, 0), Due.BAD_INDEX);
        Due.due("no reel, no room", room.splice(1, 11, 1), Due.BAD_INDEX);
        Due.due("no frame, no room", room.splice(0, 100, 1), Due.BAD_VALUE);
        Due.due("no strength, no room", room.splice(0, 11, 10), Due.BAD_VALUE);
        Due.due("no room", room.splice(0, 11, 1), Due.FULL);
    }

    /** "Removes all splices that are weaker than a strength": one as strong stays. */
    static void promise04WeakerThanEachStrength() {
        for (int strength = 1; strength <= 9; strength++) {
            ReelChanger room = Due.withReels(100);
            room.splice(0, 50, strength);
            Due.due("as strong: " + strength, room.mend(0, strength), 0);
            Due.due("it stays", room.reel(0, 1), 1);
            Due.due("weaker: " + strength, room.mend(0, strength + 1), 1);
            Due.due("it is removed", room.reel(0, 1), 0);
        }
    }

    /** "strength: 1 to 10" */
    static void promise04TheStrengths() {
        ReelChanger room = Due.withReels(100);
        room.splice(0, 1, 1);
        room.splice(0, 99, 9);
        Due.due("0", room.mend(0, 0), Due.BAD_VALUE);
        Due.due("11", room.mend(0, 11), Due.BAD_VALUE);
        Due.due("far below", room.mend(0, Integer.MIN_VALUE), Due.BAD_VALUE);
        Due.due("far above", room.mend(0, Integer.MAX_VALUE), Due.BAD_VALUE);
        Due.due("1", room.mend(0, 1), 0);
        Due.due("9", room.mend(0, 9), 1);
        Due.due("10", room.mend(0, 10), 1);
    }

    /** "Removes all splices": none, one and six of them; a splice of strength 0 is weaker than 1. */
    static void promise04NoneOneAndAll() {
        ReelChanger room = withSixSplices();
        Due.due("all", room.mend(0, 6), 6);
        Due.due("none are left", room.mend(0, 10), 0);
        Due.due("none come back", room.mend(0, 1), 0);
        Due.due("none", room.reel(0, 1), 0);
        Due.due("none", room.reel(0, 2), Due.NONE);
        ReelChanger shown = Due.withProgram("0", 100);
        shown.splice(0, 1, 1);
        shown.splice(0, 2, 1);
        shown.begin();
        shown.pass(1);
        Due.dueAll("broken", Due.splices(shown, 0), 1, 0, 2, 1);
        Due.due("that of strength 0", shown.mend(0, 1), 1);
        Due.dueAll("the other one", Due.splices(shown, 0), 2, 1);
    }

    /** "reel: a reel", and "BAD_INDEX; BAD_VALUE", in this order. */
    static void promise04TheReels() {
        ReelChanger room = Due.withReels(100, 100);
        Due.due("reel -1", room.mend(-1, 1), Due.BAD_INDEX);
        Due.due("reel 0", room.mend(0, 1), 0);
        Due.due("reel 1", room.mend(1, 1), 0);
        Due.due("reel 2", room.mend(2, 1), Due.BAD_INDEX);
        Due.due("no reel, no strength", room.mend(2, 0), Due.BAD_INDEX);
        Due.due("no reel, no strength", room.mend(-1, 11), Due.BAD_INDEX);
        Due.due("no strength", room.mend(1, 0), Due.BAD_VALUE);
        Due.due("reel 9", withTenReels().mend(9, 10), 0);
        Due.due("reel 10", withTenReels().mend(10, 10), Due.BAD_INDEX);
    }

    /** "what: 0 for its length, 1 for the number of its splices, 2 for the least strength" */
    static void promise05TheNumbers() {
        ReelChanger room = Due.withReels(100);
        room.splice(0, 50, 5);
        Due.due("what -1", room.reel(0, -1), Due.BAD_VALUE);
        Due.due("what 0", room.reel(0, 0), 100);
        Due.due("what 1", room.reel(0, 1), 1);
        Due.due("what 2", room.reel(0, 2), 5);
        Due.due("what 3", room.reel(0, 3), Due.BAD_VALUE);
        Due.due("far below", room.reel(0, Integer.MIN_VALUE), Due.BAD_VALUE);
        Due.due("far above", room.reel(0, Integer.MAX_VALUE), Due.BAD_VALUE);
    }

    /** "There is no such reel": none of those that are not made yet, however many there may be. */
    static void promise03To06TheReelsThatAreNotMade() {
        for (int made = 0; made < 10; made++) {
            ReelChanger room = new ReelChanger();
            for (int i = 0; i < made; i++) {
                room.makeReel(100);
            }
            for (int reel = made; reel <= 11; reel++) {
                Due.due("splice", room.splice(reel, 1, 1), Due.BAD_INDEX);
                Due.due("mend", room.mend(reel, 10), Due.BAD_INDEX);
                Due.due("reel", room.reel(reel, 0), Due.BAD_INDEX);
                Due.due("spliceAt", room.spliceAt(reel, 0, false), Due.BAD_INDEX);
            }
        }
    }

    /** "the number of its splices": from none to six. */
    static void promise05FromNoSpliceToSix() {
        ReelChanger room = Due.withReels(100);
        for (int i = 0; i < 6; i++) {
            Due.due("splices", room.reel(0, 1), i);
            room.splice(0, 10 + i, 1);
        }
        Due.due("six", room.reel(0, 1), 6);
        room.splice(0, 20, 1);
        Due.due("still six", room.reel(0, 1), 6);
    }

    /** "the least strength of a splice (NONE without)": 0 is a strength, and each place may hold the least. */
    static void promise05TheLeastStrength() {
        ReelChanger room = Due.withProgram("0", 100);
        Due.due("none", room.reel(0, 2), Due.NONE);
        room.splice(0, 99, 9);
        Due.due("the only one", room.reel(0, 2), 9);
        room.splice(0, 98, 8);
        Due.due("the first", room.reel(0, 2), 8);
        room.splice(0, 99, 7);
        Due.due("the last", room.reel(0, 2), 7);
        room.splice(0, 1, 1);
        room.begin();
        room.pass(1);
        Due.due("0", room.reel(0, 2), 0);
        room.mend(0, 10);
        Due.due("none again", room.reel(0, 2), Due.NONE);
    }

    /** "reel: a reel", and "BAD_INDEX; BAD_VALUE", in this order. */
    static void promise05TheReels() {
        ReelChanger room = Due.withReels(100, 200);
        Due.due("reel -1", room.reel(-1, 0), Due.BAD_INDEX);
        Due.due("reel 0", room.reel(0, 0), 100);
        Due.due("reel 1", room.reel(1, 0), 200);
        Due.due("reel 2", room.reel(2, 0), Due.BAD_INDEX);
        Due.due("no reel, no number", room.reel(2, 3), Due.BAD_INDEX);
        Due.due("no reel, no number", room.reel(-1, -1), Due.BAD_INDEX);
        Due.due("no number", room.reel(1, 3), Due.BAD_VALUE);
        Due.due("reel 9", withTenReels().reel(9, 0), 109);
        Due.due("reel 10", withTenReels().reel(10, 0), Due.BAD_INDEX);
        Due.due("far below", room.reel(Integer.MIN_VALUE, 0), Due.BAD_INDEX);
        Due.due("far above", room.reel(Integer.MAX_VALUE, 0), Due.BAD_INDEX);
    }

    /** "the number of a splice, counted from 0": the first, the last, and those beyond. */
    static void promise06TheSplices() {
        ReelChanger room = withSixSplices();
        Due.due("splice -1", room.spliceAt(0, -1, false), Due.BAD_INDEX);
        Due.due("splice 0", room.spliceAt(0, 0, false), 10);
        Due.due("splice 5", room.spliceAt(0, 5, false), 60);
        Due.due("splice 6", room.spliceAt(0, 6, false), Due.BAD_INDEX);
        Due.due("splice -1", room.spliceAt(0, -1, true), Due.BAD_INDEX);
        Due.due("splice 5", room.spliceAt(0, 5, true), 5);
        Due.due("splice 6", room.spliceAt(0, 6, true), Due.BAD_INDEX);
        room.splice(0, 60, 1);
        room.mend(0, 2);
        Due.due("splice 4 of five", room.spliceAt(0, 4, false), 50);
        Due.due("splice 5 of five", room.spliceAt(0, 5, false), Due.BAD_INDEX);
        room.mend(0, 10);
        Due.due("splice 0 of none", room.spliceAt(0, 0, false), Due.BAD_INDEX);
        Due.due("far below", room.spliceAt(0, Integer.MIN_VALUE, false), Due.BAD_INDEX);
        Due.due("far above", room.spliceAt(0, Integer.MAX_VALUE, false), Due.BAD_INDEX);
    }

    /** "There is no such .. splice": none of those beyond the last, however many there have been. */
    static void promise06TheSplicesThatAreRemoved() {
        ReelChanger room = withSixSplices();
        for (int left = 5; left >= 0; left--) {
            room.splice(0, 10 * left + 10, 1);
            Due.due("mend", room.mend(0, 2), 1);
            for (int splice = 0; splice <= 7; splice++) {
                Due.due("frame", room.spliceAt(0, splice, false), splice < left ? 10 * splice + 10 : Due.BAD_INDEX);
                Due.due("strength", room.spliceAt(0, splice, true), splice < left ? 5 : Due.BAD_INDEX);
            }
        }
    }

    /** "counted from 0 by ascending frames": a splice that is made last may be the first. */
    static void promise06ByAscendingFrames() {
        ReelChanger room = Due.withReels(100);
        room.splice(0, 50, 5);
        room.splice(0, 99, 9);
        room.splice(0, 1, 1);
        room.splice(0, 49, 4);
        room.splice(0, 51, 6);
        Due.dueAll("splices", Due.splices(room, 0), 1, 1, 49, 4, 50, 5, 51, 6, 99, 9);
    }

    /** "reel: a reel" */
    static void promise06TheReels() {
        ReelChanger room = Due.withReels(100, 100);
        room.splice(0, 10, 1);
        room.splice(1, 20, 2);
        Due.due("reel -1", room.spliceAt(-1, 0, false), Due.BAD_INDEX);
        Due.due("reel 0", room.spliceAt(0, 0, false), 10);
        Due.due("reel 1", room.spliceAt(1, 0, false), 20);
        Due.due("reel 2", room.spliceAt(2, 0, false), Due.BAD_INDEX);
        ReelChanger full = withTenReels();
        full.splice(9, 30, 3);
        Due.due("reel 9", full.spliceAt(9, 0, true), 3);
        Due.due("reel 10", full.spliceAt(10, 0, true), Due.BAD_INDEX);
    }

    /** A setting of a new room: its range, what it is at first, and that it is the only one that is changed. */
    private static void setting(int setting, int least, int most, int first) {
        ReelChanger room = new ReelChanger();
        Due.due("below", room.set(setting, least - 1), Due.BAD_VALUE);
        Due.due("above", room.set(setting, most + 1), Due.BAD_VALUE);
        Due.due("least, and at first", room.set(setting, least), first);
        Due.due("within", room.set(setting, least + 1), least);
        Due.due("below", room.set(setting, least - 1), Due.BAD_VALUE);
        Due.due("within", room.set(setting, most - 1), least + 1);
        Due.due("most", room.set(setting, most), most - 1);
        Due.due("above", room.set(setting, most + 1), Due.BAD_VALUE);
        Due.due("far below", room.set(setting, Integer.MIN_VALUE), Due.BAD_VALUE);
        Due.due("far above", room.set(setting, Integer.MAX_VALUE), Due.BAD_VALUE);
        Due.due("most again", room.set(setting, most), most);
        for (int other = 0; other < FIRST.length; other++) {
            if (other != setting) {
                Due.due("setting " + other, room.set(other, FIRST[other]), FIRST[other]);
            }
        }
    }

    /** "0 lead (1 to 90, 40)" */
    static void promise07TheLead() {
        setting(0, 1, 90, 40);
    }

    /** "1 start distance (1 to 99, 60)" */
    static void promise07TheStartDistance() {
        setting(1, 1, 99, 60);
    }

    /** "2 change distance (0 to 50, 20)" */
    static void promise07TheChangeDistance() {
        setting(2, 0, 50, 20);
    }

    /** "3 clearing time (1 to 200, 20)" */
    static void promise07TheClearingTime() {
        setting(3, 1, 200, 20);
    }

    /** "4 rewinding speed (1 to 50, 10)" */
    static void promise07TheRewindingSpeed() {
        setting(4, 1, 50, 10);
    }

    /** "5 threading time (1 to 200, 30)" */
    static void promise07TheThreadingTime() {
        setting(5, 1, 200, 30);
    }

    /** "6 repair time (1 to 500, 100)" */
    static void promise07TheRepairTime() {
        setting(6, 1, 500, 100);
    }

    /** "7 lost frames (0 to 20, 4)" */
    static void promise07TheLostFrames() {
        setting(7, 0, 20, 4);
    }

    /** "setting: 0 to 7", and "BAD_INDEX; BAD_VALUE", in this order. */
    static void promise07TheSettings() {
        ReelChanger room = new ReelChanger();
        Due.due("setting -1", room.set(-1, 10), Due.BAD_INDEX);
        Due.due("setting 0", room.set(0, 10), 40);
        Due.due("setting 7", room.set(7, 10), 4);
        Due.due("setting 8", room.set(8, 10), Due.BAD_INDEX);
        Due.due("no setting, no value", room.set(8, -1), Due.BAD_INDEX);
        Due.due("no setting, no value", room.set(-1, 501), Due.BAD_INDEX);
        Due.due("no value", room.set(7, 21), Due.BAD_VALUE);
        Due.due("far below", room.set(Integer.MIN_VALUE, 10), Due.BAD_INDEX);
        Due.due("far above", room.set(Integer.MAX_VALUE, 10), Due.BAD_INDEX);
    }
}
