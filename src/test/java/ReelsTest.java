/** Promises 1 to 7: a new object, reels, splices and settings. */
final class ReelsTest {
    private static final int[] LEAST = {1, 1, 0, 1, 1, 1, 1, 0};
    private static final int[] MOST = {90, 99, 50, 200, 50, 200, 500, 20};
    private static final int[] FIRST = {40, 60, 20, 20, 10, 30, 100, 4};

    static void promise01NewObjectIsEmpty() {
        ReelChanger room = new ReelChanger();
        Due.due("reel(0, 0)", room.reel(0, 0), Due.BAD_INDEX);
        Due.due("program(0)", room.program(0), Due.BAD_INDEX);
        Due.due("clearText()", room.clearText(), 0);
        Due.due("restore(0)", room.restore(0), Due.NOT_POSSIBLE);
        Due.due("restore(1)", room.restore(1), Due.NOT_POSSIBLE);
        Due.dueAll("tell", Due.told(room), 0, 0, 0, 0, 0, 0, 0, 0, 0, 0);
        Due.dueAll("projector 0", Due.onProjector(room, 0), ReelChanger.EMPTY, Due.NONE, Due.NONE);
        Due.dueAll("projector 1", Due.onProjector(room, 1), ReelChanger.EMPTY, Due.NONE, Due.NONE);
    }

    static void promise01SettingsAreAsAtFirst() {
        ReelChanger room = new ReelChanger();
        for (int i = 0; i < FIRST.length; i++) {
            Due.due("set " + i, room.set(i, MOST[i]), FIRST[i]);
        }
    }

    static void promise01ObjectsDoNotShareAnything() {
        ReelChanger one = Due.showing("0", 100);
        one.set(0, 1);
        one.save(0);
        ReelChanger other = new ReelChanger();
        Due.due("reel", other.reel(0, 0), Due.BAD_INDEX);
        Due.due("set", other.set(0, 2), 40);
        Due.due("tell", other.tell(0), 0);
        Due.due("restore", other.restore(0), Due.NOT_POSSIBLE);
        Due.due("faultPosition", other.faultPosition(), 0);
    }

    static void promise02MakesReelsInOrder() {
        ReelChanger room = new ReelChanger();
        for (int i = 0; i < 10; i++) {
            Due.due("makeReel", room.makeReel(100 + i), i);
        }
        Due.due("makeReel of an 11th", room.makeReel(100), Due.FULL);
        Due.due("BAD_VALUE is checked ahead", room.makeReel(99), Due.BAD_VALUE);
        for (int i = 0; i < 10; i++) {
            Due.due("length", room.reel(i, 0), 100 + i);
        }
        Due.due("reel(10, 0)", room.reel(10, 0), Due.BAD_INDEX);
    }

    static void promise02LengthHasBounds() {
        ReelChanger room = new ReelChanger();
        for (int length : new int[] {Integer.MIN_VALUE, -100, 0, 99, 3001, Integer.MAX_VALUE}) {
            Due.due("makeReel " + length, room.makeReel(length), Due.BAD_VALUE);
        }
        Due.due("makeReel(100)", room.makeReel(100), 0);
        Due.due("makeReel(3000)", room.makeReel(3000), 1);
    }

    static void promise03SplicesStandByFrames() {
        ReelChanger room = Due.withReels(100, 200);
        int[] frames = {50, 99, 1, 70, 60, 2};
        for (int i = 0; i < frames.length; i++) {
            Due.due("splice", room.splice(0, frames[i], i + 1), i + 1);
        }
        Due.dueAll("splices", Due.splices(room, 0), 1, 3, 2, 6, 50, 1, 60, 5, 70, 4, 99, 2);
        Due.due("a 7th", room.splice(0, 3, 1), Due.FULL);
        Due.due("another strength", room.splice(0, 70, 9), 6);
        Due.dueAll("splices", Due.splices(room, 0), 1, 3, 2, 6, 50, 1, 60, 5, 70, 9, 99, 2);
        Due.dueAll("those of the other reel", Due.splices(room, 1));
    }

    static void promise03WrongArguments() {
        ReelChanger room = Due.withReels(100);
        for (int frame = 1; frame <= 6; frame++) {
            Due.due("splice", room.splice(0, frame, 9), frame);
        }
        for (int reel : new int[] {Integer.MIN_VALUE, -1, 1, 10, Integer.MAX_VALUE}) {
            Due.due("no reel " + reel, room.splice(reel, 0, 0), Due.BAD_INDEX);
        }
        for (int frame : new int[] {Integer.MIN_VALUE, -1, 0, 100, 101, Integer.MAX_VALUE}) {
            Due.due("frame " + frame, room.splice(0, frame, 1), Due.BAD_VALUE);
        }
        for (int strength : new int[] {Integer.MIN_VALUE, -1, 0, 10, Integer.MAX_VALUE}) {
            Due.due("strength " + strength, room.splice(0, 1, strength), Due.BAD_VALUE);
            Due.due("strength ahead of FULL " + strength, room.splice(0, 7, strength), Due.BAD_VALUE);
        }
        Due.due("FULL", room.splice(0, 99, 1), Due.FULL);
        Due.dueAll("unchanged", Due.splices(room, 0), 1, 9, 2, 9, 3, 9, 4, 9, 5, 9, 6, 9);
    }

    static void promise04MendRemovesTheWeaker() {
        ReelChanger room = Due.withReels(100, 100);
        for (int i = 1; i <= 6; i++) {
            room.splice(0, 10 * i, i + 1);
            room.splice(1, 10 * i, 1);
        }
        Due.due("none is weaker", room.mend(0, 2), 0);
        Due.due("one is", room.mend(0, 3), 1);
        Due.due("two are", room.mend(0, 5), 2);
        Due.dueAll("splices", Due.splices(room, 0), 40, 5, 50, 6, 60, 7);
        Due.due("room again", room.splice(0, 45, 9), 4);
        Due.due("but 9", room.mend(0, 9), 3);
        Due.dueAll("splices", Due.splices(room, 0), 45, 9);
        Due.due("all", room.mend(0, 10), 1);
        Due.due("none are left", room.mend(0, 10), 0);
        Due.due("the other reel", room.reel(1, 1), 6);
    }

    static void promise04WrongArguments() {
        ReelChanger room = Due.withReels(100);
        room.splice(0, 10, 1);
        for (int reel : new int[] {Integer.MIN_VALUE, -1, 1, Integer.MAX_VALUE}) {
            Due.due("no reel " + reel, room.mend(reel, 0), Due.BAD_INDEX);
        }
        for (int strength : new int[] {Integer.MIN_VALUE, -1, 0, 11, Integer.MAX_VALUE}) {
            Due.due("strength " + strength, room.mend(0, strength), Due.BAD_VALUE);
        }
        Due.due("mend(0, 1)", room.mend(0, 1), 0);
        Due.due("unchanged", room.reel(0, 1), 1);
    }

    static void promise05ReelTellsItsNumbers() {
        ReelChanger room = Due.withReels(123, 3000);
        Due.due("no splice", room.reel(0, 2), Due.NONE);
        room.splice(0, 10, 7);
        room.splice(0, 5, 9);
        Due.due("length", room.reel(0, 0), 123);
        Due.due("splices", room.reel(0, 1), 2);
        Due.due("least strength", room.reel(0, 2), 7);
        room.splice(0, 100, 3);
        room.splice(0, 101, 8);
        Due.due("least strength", room.reel(0, 2), 3);
        Due.due("other reel", room.reel(1, 1), 0);
        for (int far : Due.FAR) {
            Due.due("reel " + far, room.reel(far, far), Due.BAD_INDEX);
            Due.due("what " + far, room.reel(0, far), Due.BAD_VALUE);
        }
        Due.due("what 3", room.reel(0, 3), Due.BAD_VALUE);
        Due.due("reel 2", room.reel(2, 0), Due.BAD_INDEX);
    }

    static void promise06SpliceAtTellsFrameOrStrength() {
        ReelChanger room = Due.withReels(100, 100);
        room.splice(0, 30, 2);
        room.splice(0, 20, 8);
        Due.due("frame", room.spliceAt(0, 0, false), 20);
        Due.due("strength", room.spliceAt(0, 0, true), 8);
        Due.due("frame", room.spliceAt(0, 1, false), 30);
        Due.due("strength", room.spliceAt(0, 1, true), 2);
        Due.due("splice 2", room.spliceAt(0, 2, true), Due.BAD_INDEX);
        Due.due("no splices", room.spliceAt(1, 0, false), Due.BAD_INDEX);
        Due.due("no reel", room.spliceAt(2, 0, false), Due.BAD_INDEX);
        for (int far : Due.FAR) {
            Due.due("reel " + far, room.spliceAt(far, 0, false), Due.BAD_INDEX);
            Due.due("splice " + far, room.spliceAt(0, far, true), Due.BAD_INDEX);
        }
        room.mend(0, 3);
        Due.due("behind the last", room.spliceAt(0, 1, false), Due.BAD_INDEX);
    }

    static void promise07SetHasRanges() {
        ReelChanger room = new ReelChanger();
        for (int i = 0; i < FIRST.length; i++) {
            Due.due("below " + i, room.set(i, LEAST[i] - 1), Due.BAD_VALUE);
            Due.due("above " + i, room.set(i, MOST[i] + 1), Due.BAD_VALUE);
            Due.due("least " + i, room.set(i, Integer.MIN_VALUE), Due.BAD_VALUE);
            Due.due("most " + i, room.set(i, Integer.MAX_VALUE), Due.BAD_VALUE);
            Due.due("first " + i, room.set(i, LEAST[i]), FIRST[i]);
            Due.due("at least " + i, room.set(i, MOST[i]), LEAST[i]);
            Due.due("at most " + i, room.set(i, FIRST[i]), MOST[i]);
        }
        for (int setting : new int[] {Integer.MIN_VALUE, -1, 8, 9, Integer.MAX_VALUE}) {
            Due.due("setting " + setting, room.set(setting, -5), Due.BAD_INDEX);
        }
    }

    static void promise07SetHoldsFromTheNextTickOn() {
        ReelChanger room = Due.showing("010", 300, 200);
        Due.passTo(room, 240);
        room.set(0, 25);
        room.set(1, 61);
        Due.passTo(room, 241);
        Due.dueAll("the new lead", Due.onProjector(room, 1), ReelChanger.STARTING, 1, -24);
        Due.due("late for the new distance", room.tell(5), 1);
        room.set(2, 30);
        Due.passTo(room, 270);
        Due.due("the new change distance", room.tell(2), 1);
        room.set(3, 5);
        room.set(4, 7);
        Due.passTo(room, 271);
        Due.due("the new clearing", room.tell(9), 5 + 43);
        room.set(3, 200);
        room.set(4, 1);
        Due.passTo(room, 272);
        Due.due("a task that is worked on", room.tell(9), 5 + 43 - 1);
        room.set(5, 11);
        Due.passTo(room, 271 + 48 + 1);
        Due.due("the new threading", room.tell(9), 11);
    }
}
