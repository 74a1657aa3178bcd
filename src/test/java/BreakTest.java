/** Promises 3, 4, 14 and 15, where splices wear and break. */
final class BreakTest {
    private static final int READY = ReelChanger.READY, STARTING = ReelChanger.STARTING;
    private static final int SHOWING = ReelChanger.SHOWING, RUN_OUT = ReelChanger.RUN_OUT, BROKEN = ReelChanger.BROKEN;

    /** A show with one splice on reel 0, that has gone on up to the tick in which its frame comes. */
    private static ReelChanger brokenAt(String text, int frame, int... lengths) {
        ReelChanger room = Due.withProgram(text, lengths);
        room.splice(0, frame, 1);
        room.begin();
        Due.passTo(room, frame - 1);
        Due.due("not broken yet", room.projector(0, 0), SHOWING);
        room.pass(1);
        Due.dueAll("broken", Due.onProjector(room, 0), BROKEN, 0, frame);
        return room;
    }

    static void promise15SpliceWearsWhenItIsShown() {
        ReelChanger room = Due.withProgram("000", 100);
        room.splice(0, 30, 3);
        room.splice(0, 79, 9);
        room.splice(0, 80, 9);
        room.splice(0, 81, 9);
        room.begin();
        Due.passTo(room, 29);
        Due.due("ahead of it", room.spliceAt(0, 0, true), 3);
        Due.passTo(room, 30);
        Due.due("at it", room.spliceAt(0, 0, true), 2);
        Due.passTo(room, 80);
        Due.dueAll("up to the change", Due.splices(room, 0), 30, 2, 79, 8, 80, 8, 81, 9);
        Due.passTo(room, 110);
        Due.due("a second time", room.spliceAt(0, 0, true), 1);
        Due.due("no break", room.tell(6), 0);
        Due.passTo(room, 210);
        Due.due("no break yet", room.tell(6), 0);
        Due.passTo(room, 211);
        Due.dueAll("a third time", Due.onProjector(room, 0), BROKEN, 2, 30);
        Due.due("a break", room.tell(6), 1);
    }

    static void promise15ABreakIsRepaired() {
        ReelChanger room = brokenAt("00", 30, 100);
        Due.dueAll("told", Due.told(room), 1, 30, 0, 1, 0, 0, 1, 2, 1, 0);
        Due.due("the row", room.task(1, 0), ReelChanger.REPAIR);
        Due.due("its projector", room.task(1, 1), 0);
        Due.due("strength", room.reel(0, 2), 0);
        room.pass(1);
        Due.dueAll("told", Due.told(room), 1, 31, 0, 2, 0, 0, 1, 2, 0, 100);
        Due.due("worked on", room.task(0, 0), ReelChanger.REPAIR);
        room.pass(99);
        Due.dueAll("told", Due.told(room), 1, 130, 0, 101, 0, 0, 1, 2, 0, 1);
        Due.dueAll("still broken", Due.onProjector(room, 0), BROKEN, 0, 30);
        room.pass(1);
        Due.dueAll("repaired", Due.onProjector(room, 0), SHOWING, 0, 30 + 4 + 1);
        Due.dueAll("told", Due.told(room), 1, 131, 0, 101, 0, 0, 1, 2, 0, 0);
        Due.dueAll("splice", Due.splices(room, 0), 30, 9);
        room.pass(2000);
        Due.dueAll("the next one is not broken", Due.told(room), 0, 131 - 35 + 80 + 100, 1, 101, 0, 0, 1, 2, 0, 0);
        Due.due("strength", room.reel(0, 2), 8);
    }

    static void promise15LostFramesSkipSplices() {
        ReelChanger room = Due.withProgram("0", 100);
        room.splice(0, 30, 1);
        room.splice(0, 31, 1);
        room.splice(0, 34, 1);
        room.splice(0, 35, 1);
        room.begin();
        room.pass(131);
        Due.dueAll("broken anew", Due.onProjector(room, 0), BROKEN, 0, 35);
        Due.due("breaks", room.tell(6), 2);
        Due.dueAll("splices", Due.splices(room, 0), 30, 9, 31, 1, 34, 1, 35, 0);
        room.set(7, 0);
        room.pass(101);
        Due.dueAll("no frame is lost", Due.onProjector(room, 0), SHOWING, 0, 36);
        Due.due("strength", room.spliceAt(0, 3, true), 9);
    }

    static void promise15LostFramesEndAtTheReel() {
        ReelChanger room = brokenAt("0", 99, 100);
        room.set(7, 20);
        room.set(6, 1);
        room.pass(1);
        Due.dueAll("taken up", Due.told(room), 1, 100, 0, 2, 0, 0, 1, 1, 0, 1);
        Due.due("to the end", room.pass(5), 1);
        Due.dueAll("told", Due.told(room), 0, 101, 0, 2, 0, 0, 1, 1, 0, 0);
        Due.due("run out", room.projector(0, 0), RUN_OUT);
    }

    static void promise15AStartBehindARepairIsLateByTheLostFrames() {
        ReelChanger room = Due.withProgram("00", 100);
        room.set(1, 1);
        room.set(2, 0);
        room.set(6, 1);
        room.set(7, 20);
        room.splice(0, 90, 1);
        room.begin();
        Due.passTo(room, 91);
        Due.dueAll("broken", Due.onProjector(room, 0), BROKEN, 0, 90);
        room.save(0);
        room.pass(1);
        Due.dueAll("run out", Due.onProjector(room, 0), RUN_OUT, 0, Due.NONE);
        Due.dueAll("late by a frame", Due.onProjector(room, 1), STARTING, 1, -39);
        Due.due("late", room.tell(5), 1);
        room.restore(0);
        room.set(7, 9);
        room.pass(1);
        Due.due("at the mark: not late", room.tell(5), 0);
    }

    static void promise15ABreakHoldsTheStart() {
        ReelChanger room = Due.withProgram("00", 300);
        room.splice(0, 250, 1);
        room.begin();
        Due.passTo(room, 249);
        Due.dueAll("started", Due.onProjector(room, 1), STARTING, 1, -31);
        Due.passTo(room, 250);
        Due.dueAll("ready again", Due.onProjector(room, 1), READY, 1, Due.NONE);
        Due.passTo(room, 350);
        Due.due("still ready", room.projector(1, 0), READY);
        Due.due("not late yet", room.tell(5), 0);
        Due.passTo(room, 351);
        Due.dueAll("goes on", Due.onProjector(room, 0), SHOWING, 0, 255);
        Due.dueAll("started anew", Due.onProjector(room, 1), STARTING, 1, -39);
        Due.due("late", room.tell(5), 1);
        Due.passTo(room, 376);
        Due.dueAll("run out", Due.told(room), 1, 376, 0, 101 + 1, 0, 1, 1, 2, 2 - 1, 0);
        Due.passTo(room, 390);
        Due.dueAll("changed", Due.told(room), 1, 390, 1, 101 + 14, 0, 1, 1, 2, 0, 50 - 13);
    }

    static void promise15EachStartBehindTheMarkIsLate() {
        ReelChanger room = Due.withProgram("00", 300);
        room.splice(0, 245, 1);
        room.splice(0, 252, 1);
        room.begin();
        Due.passTo(room, 245 + 101 + 2 + 101);
        Due.dueAll("told", Due.told(room), 1, 449, 0, 101 + 101, 0, 2, 2, 2, 0, 0);
    }

    static void promise15RepairComesAheadOfTheRow() {
        ReelChanger room = Due.withProgram("010", 100, 120);
        room.splice(1, 3, 1);
        room.begin();
        Due.passTo(room, 83);
        Due.due("broken", room.projector(1, 0), BROKEN);
        Due.due("the clearing goes on", room.task(0, 0), ReelChanger.CLEAR);
        Due.due("then the repair", room.task(1, 0), ReelChanger.REPAIR);
        Due.due("of projector 1", room.task(1, 1), 1);
        Due.due("then the threading", room.task(2, 0), ReelChanger.THREAD);
        Due.due("of projector 0", room.task(2, 1), 0);
        Due.due("no more", room.task(3, 0), Due.BAD_INDEX);
        Due.passTo(room, 81 + 30);
        Due.due("cleared", room.projector(0, 0), ReelChanger.EMPTY);
        Due.passTo(room, 112);
        Due.due("the repair", room.task(0, 0), ReelChanger.REPAIR);
        Due.due("its ticks", room.tell(9), 100);
        Due.passTo(room, 212);
        Due.dueAll("repaired", Due.onProjector(room, 1), SHOWING, 1, 3 + 4 + 1);
        Due.passTo(room, 213);
        Due.due("the threading", room.task(0, 0), ReelChanger.THREAD);
    }

    static void promise15ABreakAtTheChangeIsAheadOfIt() {
        ReelChanger room = brokenAt("00", 80, 100);
        Due.due("no change", room.tell(2), 0);
        Due.due("not run out", room.tell(8), 1);
        room.set(7, 0);
        room.pass(101);
        Due.dueAll("run out behind the repair", Due.onProjector(room, 0), RUN_OUT, 0, Due.NONE);
        Due.due("late", room.tell(5), 1);
        Due.due("front", room.tell(2), 0);
    }

    static void promise15MissedFramesDoNotWear() {
        ReelChanger room = Due.withProgram("01", 300, 200);
        room.set(1, 70);
        room.splice(1, 5, 1);
        room.splice(1, 10, 1);
        room.splice(1, 11, 2);
        room.begin();
        Due.passTo(room, 280);
        Due.due("missed", room.tell(4), 10);
        Due.passTo(room, 300);
        Due.dueAll("splices", Due.splices(room, 1), 5, 1, 10, 1, 11, 1);
        Due.due("no break", room.tell(6), 0);
    }

    static void promise15AShowBegunAnewWhileBroken() {
        ReelChanger room = brokenAt("00", 30, 100);
        Due.due("begin", room.begin(), 2);
        Due.due("no repair", room.task(1, 0), Due.BAD_INDEX);
        Due.due("strength 0 stays", room.reel(0, 2), 0);
        Due.passTo(room, 30);
        Due.dueAll("broken again", Due.onProjector(room, 0), BROKEN, 0, 30);
        Due.due("not below 0", room.reel(0, 2), 0);
        Due.due("a break", room.tell(6), 1);
        room.begin();
        Due.due("mend", room.mend(0, 1), 1);
        Due.due("nothing breaks", room.pass(2000), 180);
    }

    static void promise03And04HoldAtOnceInAShow() {
        ReelChanger room = Due.showing("0", 200);
        Due.passTo(room, 50);
        room.splice(0, 50, 1);
        room.splice(0, 51, 1);
        room.pass(1);
        Due.dueAll("broken", Due.onProjector(room, 0), BROKEN, 0, 51);
        Due.due("mend", room.mend(0, 1), 1);
        Due.dueAll("the other one", Due.splices(room, 0), 50, 1);
        room.save(0);
        room.pass(101);
        Due.dueAll("no splice to repair", Due.splices(room, 0), 50, 1);
        Due.dueAll("repaired", Due.onProjector(room, 0), SHOWING, 0, 56);
        room.restore(0);
        room.splice(0, 51, 3);
        room.pass(100);
        Due.dueAll("made anew", Due.splices(room, 0), 50, 1, 51, 3);
        room.pass(1);
        Due.dueAll("repaired", Due.splices(room, 0), 50, 1, 51, 9);
    }

    static void promise15OnlyTheRepairOfATaskTakesTheNewTime() {
        ReelChanger room = brokenAt("0", 30, 100);
        room.set(6, 500);
        room.pass(1);
        Due.due("found when it is taken up", room.tell(9), 500);
        room.set(6, 1);
        room.pass(1);
        Due.due("found already", room.tell(9), 499);
    }
}
