/** The steps of a tick (promise 15) at their bounds: a test for each sentence that names one, and just beyond it. */
final class TickBoundsTest {
    private static final int EMPTY = ReelChanger.EMPTY, READY = ReelChanger.READY, STARTING = ReelChanger.STARTING;
    private static final int SHOWING = ReelChanger.SHOWING, RUN_OUT = ReelChanger.RUN_OUT, BROKEN = ReelChanger.BROKEN;
    private static final int LEAD = 0, START = 1, CHANGE = 2, CLEARING = 3, SPEED = 4, THREADING = 5, REPAIRING = 6;
    private static final int LOST = 7;

    /** A show of reels of 100 frames in which reel 0 breaks at a frame of the first place. */
    private static ReelChanger broken(String text, int frame) {
        ReelChanger room = Due.withProgram(text, 100);
        room.splice(0, frame, 1);
        room.begin();
        Due.passTo(room, frame);
        Due.dueAll("broken", Due.onProjector(room, 0), BROKEN, 0, frame);
        return room;
    }

    /** A show of two reels of 300 frames that has come to frame 220 of the first. */
    private static ReelChanger aheadOfTheMark() {
        ReelChanger room = Due.showing("00", 300);
        Due.passTo(room, 220);
        return room;
    }

    private static void clearingTakes(int length, int time, int speed, int ticks) {
        ReelChanger room = Due.withProgram("00", length);
        room.set(CLEARING, time);
        room.set(SPEED, speed);
        room.begin();
        Due.passTo(room, length - 20);
        Due.due("not taken up", room.tell(9), 0);
        room.pass(1);
        Due.due("ticks for " + length + " frames by " + speed, room.tell(9), ticks);
    }

    /** "this quotient rounded up": without a rest, with the least rest, and with the greatest. */
    static void promise15TheQuotientIsRoundedUp() {
        clearingTakes(100, 1, 50, 1 + 2);
        clearingTakes(101, 1, 50, 1 + 3);
        clearingTakes(149, 1, 50, 1 + 3);
        clearingTakes(150, 1, 50, 1 + 3);
        clearingTakes(151, 1, 50, 1 + 4);
        clearingTakes(100, 1, 3, 1 + 34);
        clearingTakes(102, 1, 3, 1 + 34);
        clearingTakes(103, 1, 3, 1 + 35);
    }

    /** "the clearing time plus the length of the reel on it divided by the rewinding speed": least and most. */
    static void promise15TheLeastAndTheMostClearing() {
        clearingTakes(100, 1, 50, 3);
        clearingTakes(100, 200, 1, 300);
        clearingTakes(3000, 200, 1, 3200);
        clearingTakes(3000, 1, 50, 61);
        clearingTakes(2951, 1, 50, 61);
        clearingTakes(2950, 1, 50, 60);
    }

    /** "the length of the reel on it": not of the one that is shown. */
    static void promise15TheLengthOfTheReelOnIt() {
        ReelChanger room = Due.showing("01", 300, 100);
        Due.passTo(room, 281);
        Due.due("30 for 300 frames", room.tell(9), 20 + 30);
    }

    /** "its ticks left decrease by 1, and if they are 0 then, it is done": a CLEAR in its last tick. */
    static void promise15TheLastTickOfAClearing() {
        ReelChanger room = Due.withProgram("000", 100);
        room.set(CLEARING, 1);
        room.set(SPEED, 50);
        room.begin();
        Due.passTo(room, 81);
        Due.due("taken up", room.tell(9), 3);
        Due.passTo(room, 83);
        Due.due("a tick is left", room.tell(9), 1);
        Due.due("not cleared", room.projector(0, 0), RUN_OUT);
        Due.passTo(room, 84);
        Due.due("done", room.tell(9), 0);
        Due.due("cleared", room.projector(0, 0), EMPTY);
    }

    /** "its first task is taken out of it and up .. (so one tick behind the one in which another was done)" */
    static void promise15TakenUpATickBehind() {
        ReelChanger room = Due.showing("000", 100);
        Due.passTo(room, 110);
        Due.dueAll("worked on", new int[] {room.tell(8), room.tell(9)}, 1, 1);
        Due.passTo(room, 111);
        Due.dueAll("done", new int[] {room.tell(8), room.tell(9)}, 1, 0);
        Due.passTo(room, 112);
        Due.dueAll("taken up", new int[] {room.tell(8), room.tell(9)}, 0, 30);
        Due.passTo(room, 113);
        Due.dueAll("worked on", new int[] {room.tell(8), room.tell(9)}, 0, 29);
    }

    /** "if the row is not empty": nothing is taken up from an empty one. */
    static void promise15NothingIsTakenUp() {
        ReelChanger room = Due.showing("00", 100);
        Due.passTo(room, 111);
        Due.dueAll("done", new int[] {room.tell(8), room.tell(9)}, 0, 0);
        Due.passTo(room, 130);
        Due.dueAll("nothing to do", new int[] {room.tell(8), room.tell(9)}, 0, 0);
        Due.due("no task", room.task(0, 0), Due.BAD_INDEX);
    }

    /** "THREAD (1) of a projector takes the threading time": the least. */
    static void promise15TheLeastThreading() {
        ReelChanger room = Due.withProgram("000", 100);
        room.set(THREADING, 1);
        room.begin();
        Due.passTo(room, 112);
        Due.due("taken up", room.tell(9), 1);
        Due.due("not threaded", room.projector(0, 0), EMPTY);
        Due.due("on a projector", room.tell(7), 2);
        Due.passTo(room, 113);
        Due.dueAll("threaded", Due.onProjector(room, 0), READY, 2, Due.NONE);
        Due.due("on a projector", room.tell(7), 3);
    }

    /** "THREAD (1) of a projector takes the threading time": the most. */
    static void promise15TheMostThreading() {
        ReelChanger room = Due.withProgram("000", 400);
        room.set(THREADING, 200);
        room.begin();
        Due.passTo(room, 442);
        Due.due("taken up", room.tell(9), 200);
        Due.passTo(room, 641);
        Due.dueAll("a tick is left", new int[] {room.tell(9), room.projector(0, 0)}, 1, EMPTY);
        Due.passTo(room, 642);
        Due.dueAll("threaded", new int[] {room.tell(9), room.projector(0, 0)}, 0, READY);
    }

    /** "REPAIR (2) of a projector takes the repair time": the least. */
    static void promise15TheLeastRepair() {
        ReelChanger room = broken("0", 30);
        room.set(REPAIRING, 1);
        room.pass(1);
        Due.dueAll("taken up", new int[] {room.tell(9), room.projector(0, 0)}, 1, BROKEN);
        room.pass(1);
        Due.dueAll("repaired", Due.onProjector(room, 0), SHOWING, 0, 30 + 4 + 1);
    }

    /** "REPAIR (2) of a projector takes the repair time": the most. */
    static void promise15TheMostRepair() {
        ReelChanger room = broken("0", 30);
        room.set(REPAIRING, 500);
        room.pass(1);
        Due.due("taken up", room.tell(9), 500);
        room.pass(499);
        Due.dueAll("a tick is left", new int[] {room.tell(9), room.projector(0, 0)}, 1, BROKEN);
        room.pass(1);
        Due.dueAll("repaired", Due.onProjector(room, 0), SHOWING, 0, 30 + 4 + 1);
    }

    /** "at the frame at which it broke plus the lost frames": from none to the most. */
    static void promise15TheLostFrames() {
        for (int lost = 0; lost <= 20; lost++) {
            ReelChanger room = broken("0", 30);
            room.set(LOST, lost);
            room.pass(101);
            Due.dueAll("lost " + lost, Due.onProjector(room, 0), SHOWING, 0, 30 + lost + 1);
        }
    }

    /** "but at most the length of its reel": the last reel is over when a tick brings its length, or more. */
    static void promise15AtMostTheLengthOfItsReel() {
        for (int lost = 0; lost <= 20; lost++) {
            ReelChanger room = broken("0", 90);
            room.set(LOST, lost);
            Due.due("repaired", room.pass(101), 101);
            if (lost < 9) {
                Due.dueAll("goes on", Due.onProjector(room, 0), SHOWING, 0, 90 + lost + 1);
                Due.due("the rest", room.pass(2000), 100 - 90 - lost - 1);
            } else {
                Due.dueAll("run out", Due.onProjector(room, 0), RUN_OUT, 0, Due.NONE);
                Due.due("over", room.tell(0), 0);
            }
            Due.due("dark", room.tell(3), 101);
        }
    }

    /** The same for another reel than the last one, up to its change distance. */
    static void promise15LostFramesUpToTheChange() {
        ReelChanger room = broken("00", 74);
        room.pass(101);
        Due.dueAll("a frame ahead of it", Due.onProjector(room, 0), SHOWING, 0, 79);
        room = broken("00", 75);
        room.pass(101);
        Due.dueAll("at it", Due.onProjector(room, 0), RUN_OUT, 0, Due.NONE);
        room = broken("00", 76);
        room.pass(101);
        Due.dueAll("behind it", Due.onProjector(room, 0), RUN_OUT, 0, Due.NONE);
    }

    /** "the splice that is at the frame at which it broke, if there is one, has the strength 9": no other one. */
    static void promise15TheSpliceAtTheBreak() {
        ReelChanger room = Due.withProgram("0", 100);
        room.splice(0, 30, 1);
        room.splice(0, 31, 1);
        room.splice(0, 29, 5);
        room.begin();
        room.pass(30 + 100);
        Due.dueAll("ahead of the repair", Due.splices(room, 0), 29, 4, 30, 0, 31, 1);
        room.pass(1);
        Due.dueAll("repaired", Due.splices(room, 0), 29, 4, 30, 9, 31, 1);
    }

    /** "if there is one": it may have been removed meanwhile. */
    static void promise15NoSpliceAtTheBreak() {
        ReelChanger room = broken("0", 30);
        room.mend(0, 1);
        room.splice(0, 29, 2);
        room.splice(0, 31, 2);
        room.pass(101);
        Due.dueAll("no splice is made", Due.splices(room, 0), 29, 2, 31, 2);
        Due.dueAll("repaired", Due.onProjector(room, 0), SHOWING, 0, 35);
    }

    /** "How long a task takes is found when it is taken up": a tick ahead of it, and behind it. */
    static void promise15FoundWhenItIsTakenUp() {
        ReelChanger room = Due.showing("000", 100);
        Due.passTo(room, 80);
        room.set(CLEARING, 5);
        room.pass(1);
        Due.due("clearing", room.tell(9), 15);
        room.set(CLEARING, 200);
        room.set(SPEED, 1);
        room.pass(1);
        Due.due("clearing", room.tell(9), 14);
        room.pass(14);
        room.set(THREADING, 9);
        room.pass(1);
        Due.due("threading", room.tell(9), 9);
        room.set(THREADING, 1);
        room.pass(1);
        Due.due("threading", room.tell(9), 8);
        ReelChanger other = broken("0", 30);
        other.set(REPAIRING, 2);
        other.pass(1);
        Due.due("repair", other.tell(9), 2);
        other.set(REPAIRING, 500);
        other.pass(1);
        Due.due("repair", other.tell(9), 1);
    }

    /** "at a frame f that is at least the length of its reel less the start distance" */
    static void promise15TheStartDistance() {
        ReelChanger room = Due.showing("00", 300);
        Due.passTo(room, 240);
        Due.dueAll("f was 239", Due.onProjector(room, 1), READY, 1, Due.NONE);
        Due.passTo(room, 241);
        Due.dueAll("f was 240", Due.onProjector(room, 1), STARTING, 1, -39);
        Due.passTo(room, 242);
        Due.dueAll("it goes on", Due.onProjector(room, 1), STARTING, 1, -38);
        Due.due("not late", room.tell(5), 0);
    }

    /** The most start distance in the shortest reel: the mark is at frame 1. */
    static void promise15TheMostStartDistance() {
        ReelChanger room = Due.withProgram("00", 100);
        room.set(START, 99);
        room.begin();
        Due.passTo(room, 1);
        Due.dueAll("f was 0", Due.onProjector(room, 1), READY, 1, Due.NONE);
        Due.passTo(room, 2);
        Due.dueAll("f was 1", Due.onProjector(room, 1), STARTING, 1, -39);
        Due.due("not late", room.tell(5), 0);
    }

    /** The least start distance: the mark is a frame ahead of the end. */
    static void promise15TheLeastStartDistance() {
        ReelChanger room = Due.withProgram("00", 100);
        room.set(START, 1);
        room.set(CHANGE, 0);
        room.begin();
        Due.passTo(room, 99);
        Due.dueAll("f was 98", Due.onProjector(room, 1), READY, 1, Due.NONE);
        Due.passTo(room, 100);
        Due.dueAll("f was 99", Due.onProjector(room, 1), STARTING, 1, -39);
        Due.dueAll("run out", Due.onProjector(room, 0), RUN_OUT, 0, Due.NONE);
        Due.due("not late", room.tell(5), 0);
    }

    /** "This counts as late (each time) if f is greater than that" */
    static void promise15LateIfGreater() {
        ReelChanger room = aheadOfTheMark();
        room.set(START, 79);
        room.pass(1);
        Due.dueAll("less", new int[] {room.projector(1, 0), room.tell(5)}, READY, 0);
        room = aheadOfTheMark();
        room.set(START, 80);
        room.pass(1);
        Due.dueAll("as much", new int[] {room.projector(1, 0), room.tell(5)}, STARTING, 0);
        room = aheadOfTheMark();
        room.set(START, 81);
        room.pass(1);
        Due.dueAll("greater", new int[] {room.projector(1, 0), room.tell(5)}, STARTING, 1);
    }

    /** "(each time)": twice for two starts behind the mark, of the same reel. */
    static void promise15LateEachTime() {
        ReelChanger room = aheadOfTheMark();
        room.set(START, 81);
        room.splice(0, 225, 1);
        Due.passTo(room, 224);
        Due.dueAll("late", new int[] {room.projector(1, 0), room.tell(5)}, STARTING, 1);
        Due.passTo(room, 225);
        Due.dueAll("READY again", new int[] {room.projector(1, 0), room.tell(5)}, READY, 1);
        Due.passTo(room, 225 + 100);
        Due.dueAll("still READY", new int[] {room.projector(1, 0), room.tell(5)}, READY, 1);
        Due.passTo(room, 225 + 101);
        Due.dueAll("late again", new int[] {room.projector(1, 0), room.tell(5)}, STARTING, 2);
    }

    /** "the front one is SHOWING at a frame f": not while it is BROKEN at the mark or behind it. */
    static void promise15NoStartWhileBroken() {
        for (int frame = 40; frame <= 42; frame++) {
            ReelChanger room = broken("00", frame);
            room.pass(100);
            Due.dueAll("READY", Due.onProjector(room, 1), READY, 1, Due.NONE);
        }
    }

    /** The frame f of step 2 is that behind a repair in step 1. */
    static void promise15TheFrameBehindARepair() {
        int[] states = {READY, STARTING, STARTING};
        int[] late = {0, 0, 1};
        for (int lost = 9; lost <= 11; lost++) {
            ReelChanger room = broken("00", 30);
            room.set(LOST, lost);
            room.pass(101);
            Due.due("f was " + (30 + lost), room.projector(1, 0), states[lost - 9]);
            Due.due("late", room.tell(5), late[lost - 9]);
        }
    }

    /** "or the front one has run out": ahead of the mark, and late. */
    static void promise15AStartBehindTheRunOut() {
        ReelChanger room = Due.withProgram("00", 100);
        room.set(START, 1);
        room.set(CHANGE, 50);
        room.begin();
        Due.passTo(room, 50);
        Due.dueAll("run out", new int[] {room.projector(0, 0), room.projector(1, 0), room.tell(5)}, RUN_OUT, READY, 0);
        Due.passTo(room, 51);
        Due.dueAll("started", Due.onProjector(room, 1), STARTING, 1, -39);
        Due.due("late", room.tell(5), 1);
    }

    /** "also if it has been cleared .. meanwhile": the change is made with an EMPTY front projector. */
    static void promise15RunOutThoughItIsEmpty() {
        ReelChanger room = Due.withProgram("00", 100);
        int[] values = {90, 1, 50, 1, 50};
        for (int setting = 0; setting < values.length; setting++) {
            room.set(setting, values[setting]);
        }
        room.begin();
        Due.passTo(room, 53);
        Due.due("not cleared", room.projector(0, 0), RUN_OUT);
        Due.passTo(room, 54);
        Due.due("cleared", room.projector(0, 0), EMPTY);
        Due.passTo(room, 139);
        Due.dueAll("the front one", new int[] {room.tell(2), room.projector(0, 0), room.projector(1, 2)}, 0, EMPTY, -1);
        Due.passTo(room, 140);
        Due.dueAll("changed", new int[] {room.tell(2), room.projector(1, 0), room.projector(1, 2)}, 1, SHOWING, 0);
    }

    /** "or another reel has come onto it, meanwhile": the change is made, and it does not start ahead of its mark. */
    static void promise15RunOutThoughItIsReady() {
        ReelChanger room = Due.withProgram("000", 100);
        int[] values = {90, 1, 50, 1, 50, 1};
        for (int setting = 0; setting < values.length; setting++) {
            room.set(setting, values[setting]);
        }
        room.begin();
        Due.passTo(room, 56);
        Due.dueAll("threaded", Due.onProjector(room, 0), READY, 2, Due.NONE);
        Due.passTo(room, 139);
        Due.dueAll("the front one is dark", new int[] {room.tell(2), room.tell(3), room.projector(0, 0)}, 0, 90, READY);
        Due.passTo(room, 140);
        Due.dueAll("changed", new int[] {room.tell(2), room.tell(3), room.projector(0, 0)}, 1, 90, READY);
        Due.passTo(room, 189);
        Due.dueAll("not started", new int[] {room.tell(5), room.projector(0, 0)}, 1, READY);
        Due.passTo(room, 190);
        Due.dueAll("run out", new int[] {room.projector(1, 0), room.projector(0, 0)}, RUN_OUT, READY);
        Due.passTo(room, 191);
        Due.dueAll("started", new int[] {room.tell(5), room.projector(0, 0)}, 2, STARTING);
    }

    /** "the back one is STARTING at frame -lead": the least lead and the most. */
    static void promise15TheLeads() {
        for (int lead : new int[] {1, 2, 89, 90}) {
            ReelChanger room = Due.withProgram("00", 300);
            room.set(LEAD, lead);
            room.begin();
            Due.passTo(room, 240);
            Due.due("not started", room.projector(1, 2), Due.NONE);
            Due.passTo(room, 241);
            Due.dueAll("lead " + lead, Due.onProjector(room, 1), STARTING, 1, 1 - lead);
        }
    }

    /** "Each projector that is STARTING or SHOWING goes on by one frame": no other one. */
    static void promise15GoesOnByOneFrame() {
        ReelChanger room = Due.showing("00", 100);
        Due.passTo(room, 41);
        Due.dueAll("frames", new int[] {room.projector(0, 2), room.projector(1, 2)}, 41, -39);
        Due.passTo(room, 42);
        Due.dueAll("frames", new int[] {room.projector(0, 2), room.projector(1, 2)}, 42, -38);
        ReelChanger halted = broken("00", 30);
        halted.pass(100);
        Due.dueAll("BROKEN", Due.onProjector(halted, 0), BROKEN, 0, 30);
        Due.dueAll("READY", Due.onProjector(halted, 1), READY, 1, Due.NONE);
    }

    /** "the strength of the splice decreases by 1 .. if it is 0 then, the projector is BROKEN" */
    static void promise15FromOneToNought() {
        ReelChanger room = Due.withProgram("0", 100);
        room.splice(0, 10, 2);
        room.splice(0, 20, 1);
        room.begin();
        Due.passTo(room, 10);
        Due.dueAll("1 is no break", new int[] {room.spliceAt(0, 0, true), room.projector(0, 0), room.tell(6)}, 1,
            SHOWING, 0);
        Due.passTo(room, 19);
        Due.dueAll("not come to", new int[] {room.spliceAt(0, 1, true), room.projector(0, 0), room.tell(6)}, 1,
            SHOWING, 0);
        Due.passTo(room, 20);
        Due.dueAll("0 is a break", new int[] {room.spliceAt(0, 1, true), room.projector(0, 0), room.tell(6)}, 0,
            BROKEN, 1);
    }

    /** "but not below 0 (it can be 0 already ..)": it breaks again. */
    static void promise15NotBelowNought() {
        ReelChanger room = broken("0", 30);
        for (int time = 1; time <= 3; time++) {
            room.begin();
            Due.passTo(room, 29);
            Due.due("SHOWING", room.projector(0, 0), SHOWING);
            Due.passTo(room, 30);
            Due.dueAll("BROKEN", Due.onProjector(room, 0), BROKEN, 0, 30);
            Due.due("strength", room.spliceAt(0, 0, true), 0);
            Due.due("a break", room.tell(6), 1);
        }
        room.pass(101);
        Due.due("repaired", room.spliceAt(0, 0, true), 9);
    }

    /** "has come in this tick's step 3 to the frame of a splice": the first frame and the last one of a reel. */
    static void promise15TheFirstAndTheLastFrame() {
        ReelChanger room = Due.withProgram("0", 100);
        room.splice(0, 1, 3);
        room.splice(0, 99, 1);
        room.begin();
        Due.due("at 0", room.spliceAt(0, 0, true), 3);
        room.pass(1);
        Due.due("at 1", room.spliceAt(0, 0, true), 2);
        room.pass(97);
        Due.dueAll("at 98", Due.splices(room, 0), 1, 2, 99, 1);
        room.pass(1);
        Due.dueAll("at 99", Due.onProjector(room, 0), BROKEN, 0, 99);
        Due.dueAll("splices", Due.splices(room, 0), 1, 2, 99, 0);
    }

    /** "has come in this tick's step 3": a splice that is made where the projector is does not wear, the next does. */
    static void promise15ASpliceMadeInTheShow() {
        ReelChanger room = Due.showing("0", 100);
        room.pass(50);
        room.splice(0, 50, 1);
        room.pass(1);
        Due.due("at it", room.projector(0, 0), SHOWING);
        room.splice(0, 52, 1);
        room.pass(1);
        Due.due("ahead of it", room.projector(0, 0), BROKEN);
    }

    /** "to the frame of a splice": behind a repair, that of the frame behind the lost ones. */
    static void promise15TheFrameBehindTheLostOnes() {
        for (int frame = 31; frame <= 36; frame++) {
            ReelChanger room = broken("0", 30);
            room.splice(0, frame, 2);
            room.pass(101);
            Due.due("frame " + frame, room.spliceAt(0, 1, true), frame == 35 ? 1 : 2);
        }
    }

    /** "If the front projector is SHOWING": the frames of a STARTING one don't wear, up to that of the change. */
    static void promise15TheFramesOfAStart() {
        ReelChanger room = Due.withProgram("01", 300, 100);
        room.set(LEAD, 39);
        room.splice(1, 1, 2);
        room.splice(1, 2, 2);
        room.begin();
        Due.passTo(room, 280);
        Due.dueAll("changed", Due.onProjector(room, 1), SHOWING, 1, 1);
        Due.dueAll("not worn", Due.splices(room, 1), 1, 2, 2, 2);
        room.pass(1);
        Due.dueAll("worn from then on", Due.splices(room, 1), 1, 2, 2, 1);
    }

    /** "REPAIR of it comes to the front of the row": of an empty one, and ahead of another task. */
    static void promise15RepairAtTheFront() {
        ReelChanger room = broken("0", 30);
        Due.dueAll("alone", new int[] {room.tell(8), room.task(1, 0), room.task(1, 1)}, 1, ReelChanger.REPAIR, 0);
        ReelChanger other = Due.showing("000", 100);
        Due.passTo(other, 81);
        other.splice(0, 2, 1);
        Due.passTo(other, 82);
        Due.dueAll("worked on", new int[] {other.tell(8), other.task(0, 0)}, 2, ReelChanger.CLEAR);
        Due.dueAll("first", new int[] {other.task(1, 0), other.task(1, 1)}, ReelChanger.REPAIR, 1);
        Due.dueAll("second", new int[] {other.task(2, 0), other.task(2, 1)}, ReelChanger.THREAD, 0);
    }

    /** "and the back projector, if it is STARTING, is READY again": in no other state is it changed. */
    static void promise15OnlyAStartingOneIsReadyAgain() {
        ReelChanger ready = broken("00", 40);
        Due.due("READY", ready.projector(1, 0), READY);
        ReelChanger starting = broken("00", 41);
        Due.dueAll("STARTING ahead of it", Due.onProjector(starting, 1), READY, 1, Due.NONE);
        ReelChanger none = broken("0", 41);
        Due.due("EMPTY", none.projector(1, 0), EMPTY);
        ReelChanger runOut = Due.showing("00", 100);
        Due.passTo(runOut, 80);
        runOut.splice(0, 1, 1);
        runOut.pass(1);
        Due.dueAll("RUN_OUT", new int[] {runOut.projector(1, 0), runOut.projector(0, 0)}, BROKEN, RUN_OUT);
    }

    /** "the last reel of the program, and its frame is at least the length of the reel": whatever the distances. */
    static void promise15TheEndOfTheLastReel() {
        ReelChanger room = Due.withProgram("0", 100);
        room.set(CHANGE, 50);
        room.begin();
        Due.passTo(room, 99);
        Due.dueAll("goes on", Due.onProjector(room, 0), SHOWING, 0, 99);
        Due.due("not over", room.tell(0), 1);
        Due.due("the last tick", room.pass(1), 1);
        Due.dueAll("run out", Due.onProjector(room, 0), RUN_OUT, 0, Due.NONE);
        Due.dueAll("told", Due.told(room), 0, 100, 0, 0, 0, 0, 0, 1, 0, 0);
    }

    /** "the last reel of the program": the same reel at an earlier place is another one. */
    static void promise15TheSameReelAtAnEarlierPlace() {
        ReelChanger room = Due.showing("000", 100);
        Due.passTo(room, 80);
        Due.dueAll("first", Due.onProjector(room, 0), RUN_OUT, 0, Due.NONE);
        Due.passTo(room, 160);
        Due.dueAll("second", Due.onProjector(room, 1), RUN_OUT, 1, Due.NONE);
        Due.passTo(room, 281);
        Due.dueAll("third", Due.onProjector(room, 0), RUN_OUT, 2, Due.NONE);
        Due.due("over", room.tell(0), 0);
    }

    /** "its frame is at least the length less the change distance" */
    static void promise15TheChangeDistance() {
        for (int distance : new int[] {0, 1, 19, 20, 49, 50}) {
            ReelChanger room = Due.withProgram("00", 100);
            room.set(CHANGE, distance);
            room.begin();
            Due.passTo(room, 99 - distance);
            Due.dueAll("a frame ahead", Due.onProjector(room, 0), SHOWING, 0, 99 - distance);
            Due.due("no task", room.tell(8), 0);
            Due.passTo(room, 100 - distance);
            Due.dueAll("at it", Due.onProjector(room, 0), RUN_OUT, 0, Due.NONE);
            Due.due("a task", room.task(1, 0), ReelChanger.CLEAR);
        }
    }

    /** "its frame is at least ..": a greater distance from the next tick on finds it behind the mark. */
    static void promise15BehindTheChangeDistance() {
        ReelChanger room = Due.showing("00", 100);
        Due.passTo(room, 60);
        room.set(CHANGE, 50);
        room.pass(1);
        Due.dueAll("run out", Due.onProjector(room, 0), RUN_OUT, 0, Due.NONE);
    }

    /** "if there are more reels that have not been on a projector than there are THREAD tasks": none, and one more. */
    static void promise15MoreReelsThanThreadTasks() {
        ReelChanger two = Due.showing("00", 100);
        Due.passTo(two, 80);
        Due.dueAll("no reel is left", new int[] {two.tell(8), two.task(2, 0)}, 1, Due.BAD_INDEX);
        ReelChanger three = Due.showing("000", 100);
        Due.passTo(three, 80);
        Due.dueAll("one is left", new int[] {three.tell(8), three.task(2, 0), three.task(2, 1)}, 2,
            ReelChanger.THREAD, 0);
    }

    /** ".. in the row": as many as reels are left, and one less. */
    static void promise15AThreadTaskInTheRow() {
        ReelChanger three = Due.withProgram("000", 100);
        three.set(CLEARING, 200);
        three.begin();
        Due.passTo(three, 160);
        Due.dueAll("one is left", new int[] {three.tell(8), three.task(1, 0), three.task(2, 0)}, 2,
            ReelChanger.THREAD, ReelChanger.CLEAR);
        ReelChanger four = Due.withProgram("0000", 100);
        four.set(CLEARING, 200);
        four.begin();
        Due.passTo(four, 160);
        Due.dueAll("two are left", new int[] {four.tell(8), four.task(1, 0), four.task(2, 0), four.task(3, 0)}, 3,
            ReelChanger.THREAD, ReelChanger.CLEAR, ReelChanger.THREAD);
    }

    /** ".. or worked on": as many as reels are left, and one less. */
    static void promise15AThreadTaskThatIsWorkedOn() {
        ReelChanger three = Due.withProgram("000", 100);
        three.set(THREADING, 200);
        three.begin();
        Due.passTo(three, 160);
        Due.dueAll("one is left", new int[] {three.tell(8), three.task(0, 0), three.task(1, 0)}, 1,
            ReelChanger.THREAD, ReelChanger.CLEAR);
        ReelChanger four = Due.withProgram("0000", 100);
        four.set(THREADING, 200);
        four.begin();
        Due.passTo(four, 160);
        Due.dueAll("two are left", new int[] {four.tell(8), four.task(0, 0), four.task(1, 0), four.task(2, 0)}, 2,
            ReelChanger.THREAD, ReelChanger.CLEAR, ReelChanger.THREAD);
    }

    /** "STARTING at a frame g that is 0 or more, the change is made .. g counts as missed frames" */
    static void promise15TheFrameOfTheChange() {
        ReelChanger below = Due.withProgram("00", 100);
        below.set(LEAD, 41);
        below.begin();
        Due.passTo(below, 80);
        Due.dueAll("g is -1", Due.onProjector(below, 1), STARTING, 1, -1);
        Due.dueAll("no change", new int[] {below.tell(2), below.tell(3), below.tell(4)}, 0, 1, 0);
        below.pass(1);
        Due.dueAll("changed", new int[] {below.tell(2), below.tell(3), below.tell(4)}, 1, 1, 0);
        ReelChanger exact = Due.showing("00", 100);
        Due.passTo(exact, 80);
        Due.dueAll("g is 0", Due.onProjector(exact, 1), SHOWING, 1, 0);
        Due.dueAll("changed", new int[] {exact.tell(2), exact.tell(3), exact.tell(4)}, 1, 0, 0);
        ReelChanger above = Due.withProgram("00", 100);
        above.set(LEAD, 39);
        above.begin();
        Due.passTo(above, 80);
        Due.dueAll("g is 1", Due.onProjector(above, 1), SHOWING, 1, 1);
        Due.dueAll("changed", new int[] {above.tell(2), above.tell(3), above.tell(4)}, 1, 0, 1);
    }

    /** "g counts as missed frames": the most, and those of each change. */
    static void promise15TheMostMissedFrames() {
        ReelChanger room = Due.withProgram("000", 200);
        int[] values = {1, 99, 0};
        for (int setting = 0; setting < values.length; setting++) {
            room.set(setting, values[setting]);
        }
        room.begin();
        Due.passTo(room, 199);
        Due.dueAll("not yet", new int[] {room.tell(2), room.tell(4), room.projector(1, 2)}, 0, 0, 97);
        Due.passTo(room, 200);
        Due.dueAll("changed", new int[] {room.tell(2), room.tell(4), room.projector(1, 2)}, 1, 98, 98);
        Due.passTo(room, 302);
        Due.dueAll("changed again", new int[] {room.tell(2), room.tell(4), room.projector(0, 2)}, 0, 98 + 30, 30);
    }

    /** "and the back one is STARTING": not if it is EMPTY. */
    static void promise15NoChangeToAnEmptyOne() {
        ReelChanger room = Due.withProgram("000", 100);
        room.set(THREADING, 200);
        room.begin();
        Due.passTo(room, 160);
        Due.dueAll("run out", new int[] {room.tell(2), room.projector(1, 0), room.projector(0, 0)}, 1, RUN_OUT, EMPTY);
        Due.passTo(room, 311);
        Due.dueAll("still", new int[] {room.tell(2), room.projector(1, 0), room.projector(0, 0)}, 1, RUN_OUT, EMPTY);
        Due.due("late", room.tell(5), 0);
    }

    /** "The time increases by 1": in each tick, the last one, too. */
    static void promise15TheTime() {
        ReelChanger room = Due.showing("0", 100);
        for (int time = 1; time <= 100; time++) {
            Due.due("pass", room.pass(1), 1);
            Due.due("time", room.tell(1), time);
        }
        Due.due("over", room.pass(1), Due.NOT_POSSIBLE);
        Due.due("time", room.tell(1), 100);
    }

    /** "If the show is not over, and the front projector is not SHOWING, this counts as a dark tick." */
    static void promise15TheDarkTicks() {
        ReelChanger room = Due.withProgram("00", 100);
        room.set(LEAD, 42);
        room.begin();
        Due.passTo(room, 79);
        Due.due("SHOWING", room.tell(3), 0);
        Due.passTo(room, 80);
        Due.due("RUN_OUT", room.tell(3), 1);
        Due.passTo(room, 81);
        Due.due("RUN_OUT", room.tell(3), 2);
        Due.passTo(room, 82);
        Due.due("changed in this tick", room.tell(3), 2);
        room.pass(2000);
        Due.due("the last tick is not dark", room.tell(3), 2);
    }

    /** The ticks of a break: from the one in which it breaks, up to that ahead of the one in which it is repaired. */
    static void promise15TheDarkTicksOfABreak() {
        ReelChanger room = Due.withProgram("0", 100);
        room.splice(0, 30, 1);
        room.begin();
        Due.passTo(room, 29);
        Due.due("ahead of it", room.tell(3), 0);
        Due.passTo(room, 30);
        Due.due("broken in this tick", room.tell(3), 1);
        Due.passTo(room, 130);
        Due.due("the last of them", room.tell(3), 101);
        Due.passTo(room, 131);
        Due.due("repaired in this tick", room.tell(3), 101);
    }

    /** "the one that shows, or that has shown last": the front one is another one from the change on. */
    static void promise15TheFrontProjector() {
        ReelChanger room = Due.withProgram("000", 100);
        room.set(LEAD, 41);
        room.begin();
        Due.passTo(room, 80);
        Due.due("has shown last", room.tell(2), 0);
        Due.passTo(room, 81);
        Due.due("shows", room.tell(2), 1);
        room.pass(2000);
        Due.due("has shown last", room.tell(2), 0);
    }

    /** "the next reel is the first one that has not been on a projector yet": up to the twelfth. */
    static void promise15TheReelsInTheirOrder() {
        ReelChanger room = Due.showing("000000000000", 200);
        for (int place = 2; place < 12; place++) {
            int projector = place % 2;
            Due.passTo(room, 180 * (place - 1) + 71);
            Due.dueAll("threading", new int[] {room.tell(7), room.projector(projector, 0)}, place, EMPTY);
            Due.passTo(room, 180 * (place - 1) + 72);
            Due.dueAll("place " + place, Due.onProjector(room, projector), READY, place, Due.NONE);
            Due.due("on a projector", room.tell(7), place + 1);
        }
        room.pass(2000);
        Due.dueAll("told", Due.told(room), 0, 11 * 180 + 200, 1, 0, 0, 0, 0, 12, 0, 0);
    }
}
