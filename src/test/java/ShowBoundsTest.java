/** Promises 14 to 18 at their bounds: a test for each sentence that names one, just within it and just beyond it. */
final class ShowBoundsTest {
    private static final int EMPTY = ReelChanger.EMPTY, READY = ReelChanger.READY, STARTING = ReelChanger.STARTING;
    private static final int SHOWING = ReelChanger.SHOWING, RUN_OUT = ReelChanger.RUN_OUT, BROKEN = ReelChanger.BROKEN;
    private static final int CLEAR = ReelChanger.CLEAR, THREAD = ReelChanger.THREAD, REPAIR = ReelChanger.REPAIR;

    /** A show that is over. */
    private static ReelChanger over() {
        ReelChanger room = Due.showing("0", 100);
        Due.due("pass", room.pass(2000), 100);
        return room;
    }

    /** "NOT_POSSIBLE if the program is empty": a text alone is no program. */
    static void promise14AnEmptyProgram() {
        ReelChanger room = Due.withReels(100);
        Due.due("no text", room.begin(), Due.NOT_POSSIBLE);
        room.append('0');
        Due.due("a text", room.begin(), Due.NOT_POSSIBLE);
        Due.due("not begun", room.tell(0), 0);
        room.setProgram();
        Due.due("a program", room.begin(), 1);
        Due.due("begun", room.tell(0), 1);
    }

    /** "the second one, if there is one, is on projector 1, which is READY; otherwise projector 1 is EMPTY" */
    static void promise14ASecondReelOrNone() {
        ReelChanger one = Due.showing("0", 100);
        Due.dueAll("projector 1", Due.onProjector(one, 1), EMPTY, Due.NONE, Due.NONE);
        Due.due("on a projector", one.tell(7), 1);
        ReelChanger two = Due.showing("00", 100);
        Due.dueAll("projector 1", Due.onProjector(two, 1), READY, 1, Due.NONE);
        Due.due("on a projector", two.tell(7), 2);
        ReelChanger three = Due.showing("000", 100);
        Due.dueAll("projector 1", Due.onProjector(three, 1), READY, 1, Due.NONE);
        Due.due("on a projector", three.tell(7), 2);
    }

    /** "otherwise projector 1 is EMPTY", also if it has not been so ahead of begin(). */
    static void promise14ProjectorOneIsEmptied() {
        ReelChanger room = Due.showing("00", 100);
        room.pass(2000);
        Due.due("run out", room.projector(1, 0), RUN_OUT);
        Due.write(room, "0");
        room.setProgram();
        room.begin();
        Due.dueAll("projector 1", Due.onProjector(room, 1), EMPTY, Due.NONE, Due.NONE);
        Due.dueAll("projector 0", Due.onProjector(room, 0), SHOWING, 0, 0);
    }

    /** "Returns the number of reels in the program": from one to twelve. */
    static void promise14TheNumberOfReels() {
        for (int reels = 1; reels <= 12; reels++) {
            Due.due("begin", Due.withProgram("0".repeat(reels), 100).begin(), reels);
        }
    }

    /** "the time is 0, nothing is counted, and the operator has no tasks": whatever has been. */
    static void promise14NothingIsCounted() {
        ReelChanger room = Due.withProgram("000", 100);
        room.splice(0, 10, 1);
        room.set(1, 70);
        room.set(5, 200);
        room.begin();
        room.pass(2000);
        Due.due("over", room.tell(0), 0);
        for (int what = 3; what <= 6; what++) {
            Due.due("counted " + what, room.tell(what) > 0 ? 1 : 0, 1);
        }
        room.begin();
        Due.dueAll("told", Due.told(room), 1, 0, 0, 0, 0, 0, 0, 2, 0, 0);
        Due.due("none is worked on", room.task(0, 0), Due.BAD_INDEX);
        Due.due("none is in the row", room.task(1, 0), Due.BAD_INDEX);
        Due.dueAll("the first reel", Due.onProjector(room, 0), SHOWING, 0, 0);
        Due.dueAll("the second reel", Due.onProjector(room, 1), READY, 1, Due.NONE);
    }

    /** "(Splices are as strong as they are.)": a begin changes none. */
    static void promise14SplicesAreAsStrongAsTheyAre() {
        ReelChanger room = Due.withProgram("0", 100);
        room.splice(0, 10, 9);
        room.splice(0, 20, 1);
        room.begin();
        room.pass(20);
        room.begin();
        Due.dueAll("splices", Due.splices(room, 0), 10, 8, 20, 0);
    }

    /** "ticks: 1 to 2000" */
    static void promise15TheTicks() {
        ReelChanger room = Due.showing("00", 3000);
        Due.due("0", room.pass(0), Due.BAD_VALUE);
        Due.due("1", room.pass(1), 1);
        Due.due("2001", room.pass(2001), Due.BAD_VALUE);
        Due.due("2000", room.pass(2000), 2000);
        Due.due("-1", room.pass(-1), Due.BAD_VALUE);
        Due.due("far below", room.pass(Integer.MIN_VALUE), Due.BAD_VALUE);
        Due.due("far above", room.pass(Integer.MAX_VALUE), Due.BAD_VALUE);
        Due.due("time", room.tell(1), 2001);
        Due.due("1999", room.pass(1999), 1999);
        Due.due("time", room.tell(1), 4000);
    }

    /** "until so many have passed, or the show is over": a tick less than there are, as many, and one more. */
    static void promise15UpToTheEnd() {
        ReelChanger room = Due.showing("0", 100);
        Due.due("a tick less", room.pass(99), 99);
        Due.due("goes on", room.tell(0), 1);
        Due.due("one more than there is", room.pass(2), 1);
        Due.due("over", room.tell(0), 0);
        ReelChanger exact = Due.showing("0", 100);
        Due.due("as many", exact.pass(100), 100);
        Due.due("over", exact.tell(0), 0);
        ReelChanger longest = Due.showing("0", 2000);
        Due.due("2000", longest.pass(2000), 2000);
        Due.due("over", longest.tell(0), 0);
    }

    /** "NOT_POSSIBLE if no show has begun, or it is over", behind BAD_VALUE. */
    static void promise15NoShow() {
        ReelChanger room = Due.withProgram("0", 100);
        Due.due("not begun", room.pass(1), Due.NOT_POSSIBLE);
        Due.due("not begun", room.pass(2000), Due.NOT_POSSIBLE);
        Due.due("not begun, no ticks", room.pass(0), Due.BAD_VALUE);
        Due.due("not begun, no ticks", room.pass(2001), Due.BAD_VALUE);
        ReelChanger ended = over();
        Due.due("over", ended.pass(1), Due.NOT_POSSIBLE);
        Due.due("over, no ticks", ended.pass(0), Due.BAD_VALUE);
        Due.due("over, no ticks", ended.pass(2001), Due.BAD_VALUE);
        Due.due("the time stays", ended.tell(1), 100);
    }

    /** "what: 0 .. 9" */
    static void promise16TheNumbers() {
        ReelChanger room = Due.showing("00", 100);
        Due.passTo(room, 81);
        Due.due("what -1", room.tell(-1), Due.BAD_INDEX);
        Due.due("what 0", room.tell(0), 1);
        Due.due("what 9", room.tell(9), 30);
        Due.due("what 10", room.tell(10), Due.BAD_INDEX);
        Due.due("far below", room.tell(Integer.MIN_VALUE), Due.BAD_INDEX);
        Due.due("far above", room.tell(Integer.MAX_VALUE), Due.BAD_INDEX);
        ReelChanger none = new ReelChanger();
        Due.due("what -1, no show", none.tell(-1), Due.BAD_INDEX);
        Due.due("what 10, no show", none.tell(10), Due.BAD_INDEX);
    }

    /** "0 for 1 if a show has begun and is not over, and 0 if not" */
    static void promise16FromTheBeginToTheEnd() {
        ReelChanger room = Due.withProgram("0", 100);
        Due.due("not begun", room.tell(0), 0);
        room.begin();
        Due.due("begun", room.tell(0), 1);
        room.pass(99);
        Due.due("ahead of the last tick", room.tell(0), 1);
        room.pass(1);
        Due.due("over", room.tell(0), 0);
        room.begin();
        Due.due("begun anew", room.tell(0), 1);
    }

    /** "0 for 1 to 9, if no show has begun": though there is a program. */
    static void promise16NoShowHasBegun() {
        ReelChanger room = Due.withProgram("00", 100);
        room.darkWith(0, 90);
        Due.dueAll("told", Due.told(room), 0, 0, 0, 0, 0, 0, 0, 0, 0, 0);
    }

    /** "as it was when the show was over, behind its end" */
    static void promise16BehindTheEnd() {
        ReelChanger room = Due.withProgram("00", 100);
        room.set(0, 41);
        room.set(3, 200);
        room.begin();
        room.pass(2000);
        int[] want = {0, 181, 1, 1, 0, 0, 0, 2, 0, 210 - 100};
        Due.dueAll("told", Due.told(room), want);
        room.pass(1);
        room.set(3, 1);
        room.makeReel(100);
        room.forecast(0);
        room.darkWith(0, 90);
        Due.dueAll("told", Due.told(room), want);
    }

    /** "9 for the ticks left of the task that is worked on (0 if there is none)": 1 is the least of a task. */
    static void promise16TheTicksLeft() {
        ReelChanger room = Due.showing("00", 100);
        Due.passTo(room, 80);
        Due.due("none is worked on", room.tell(9), 0);
        Due.passTo(room, 81);
        Due.due("taken up", room.tell(9), 30);
        Due.passTo(room, 110);
        Due.due("the last tick", room.tell(9), 1);
        Due.due("worked on", room.task(0, 0), CLEAR);
        Due.passTo(room, 111);
        Due.due("done", room.tell(9), 0);
        Due.due("none", room.task(0, 0), Due.BAD_INDEX);
    }

    /** "7 for the number of reels of the program that have been on a projector": up to all of them. */
    static void promise16TheReelsOnAProjector() {
        ReelChanger room = Due.showing("0000", 100);
        Due.passTo(room, 141);
        Due.due("threading", room.tell(7), 2);
        Due.passTo(room, 142);
        Due.due("threaded", room.tell(7), 3);
        room.pass(2000);
        Due.due("all", room.tell(7), 4);
    }

    /** "projector: 0 or 1" */
    static void promise17TheProjectors() {
        ReelChanger room = Due.showing("00", 100);
        Due.due("projector -1", room.projector(-1, 0), Due.BAD_INDEX);
        Due.due("projector 0", room.projector(0, 0), SHOWING);
        Due.due("projector 1", room.projector(1, 0), READY);
        Due.due("projector 2", room.projector(2, 0), Due.BAD_INDEX);
        Due.due("far below", room.projector(Integer.MIN_VALUE, 0), Due.BAD_INDEX);
        Due.due("far above", room.projector(Integer.MAX_VALUE, 0), Due.BAD_INDEX);
    }

    /** "what: 0 .. 2" */
    static void promise17TheNumbers() {
        ReelChanger room = Due.showing("00", 100);
        room.pass(7);
        for (int projector = 0; projector <= 1; projector++) {
            Due.due("what -1", room.projector(projector, -1), Due.BAD_VALUE);
            Due.due("what 3", room.projector(projector, 3), Due.BAD_VALUE);
            Due.due("far below", room.projector(projector, Integer.MIN_VALUE), Due.BAD_VALUE);
            Due.due("far above", room.projector(projector, Integer.MAX_VALUE), Due.BAD_VALUE);
        }
        Due.due("what 0", room.projector(0, 0), SHOWING);
        Due.due("what 1", room.projector(0, 1), 0);
        Due.due("what 2", room.projector(0, 2), 7);
    }

    /** "BAD_INDEX; BAD_VALUE", in this order, and NONE only if there is no error. */
    static void promise17TheOrderOfErrors() {
        ReelChanger room = new ReelChanger();
        Due.due("no projector, no number", room.projector(2, 3), Due.BAD_INDEX);
        Due.due("no projector, no number", room.projector(-1, -1), Due.BAD_INDEX);
        Due.due("no projector, empty", room.projector(2, 1), Due.BAD_INDEX);
        Due.due("no number, empty", room.projector(1, 3), Due.BAD_VALUE);
        Due.due("no number, empty", room.projector(1, -1), Due.BAD_VALUE);
        Due.due("empty", room.projector(1, 2), Due.NONE);
    }

    /** "1 for the place in the program of the reel on it (NONE if it is EMPTY)": in each state. */
    static void promise17ThePlaceInEachState() {
        ReelChanger room = Due.withProgram("0000", 100);
        room.splice(0, 70, 3);
        room.begin();
        Due.dueAll("SHOWING", new int[] {room.projector(0, 0), room.projector(0, 1)}, SHOWING, 0);
        Due.dueAll("READY", new int[] {room.projector(1, 0), room.projector(1, 1)}, READY, 1);
        Due.passTo(room, 41);
        Due.dueAll("STARTING", new int[] {room.projector(1, 0), room.projector(1, 1)}, STARTING, 1);
        Due.passTo(room, 80);
        Due.dueAll("RUN_OUT", new int[] {room.projector(0, 0), room.projector(0, 1)}, RUN_OUT, 0);
        Due.passTo(room, 111);
        Due.dueAll("EMPTY", new int[] {room.projector(0, 0), room.projector(0, 1)}, EMPTY, Due.NONE);
        Due.passTo(room, 142);
        room.splice(0, 70, 1);
        Due.passTo(room, 150);
        Due.dueAll("BROKEN", new int[] {room.projector(1, 0), room.projector(1, 1)}, BROKEN, 1);
    }

    /** "2 for the frame at which it is (NONE if it is EMPTY, READY or RUN_OUT)": in each state. */
    static void promise17TheFrameInEachState() {
        ReelChanger room = Due.withProgram("000", 100);
        room.begin();
        Due.dueAll("SHOWING", new int[] {room.projector(0, 0), room.projector(0, 2)}, SHOWING, 0);
        Due.dueAll("READY", new int[] {room.projector(1, 0), room.projector(1, 2)}, READY, Due.NONE);
        Due.passTo(room, 41);
        Due.dueAll("STARTING", new int[] {room.projector(1, 0), room.projector(1, 2)}, STARTING, -39);
        Due.passTo(room, 80);
        Due.dueAll("RUN_OUT", new int[] {room.projector(0, 0), room.projector(0, 2)}, RUN_OUT, Due.NONE);
        Due.passTo(room, 111);
        Due.dueAll("EMPTY", new int[] {room.projector(0, 0), room.projector(0, 2)}, EMPTY, Due.NONE);
        room.splice(0, 70, 1);
        Due.passTo(room, 150);
        Due.dueAll("BROKEN", new int[] {room.projector(1, 0), room.projector(1, 2)}, BROKEN, 70);
        room.pass(10);
        Due.dueAll("still BROKEN", new int[] {room.projector(1, 0), room.projector(1, 2)}, BROKEN, 70);
    }

    /** "a frame, which is below 0 in the leader ahead of the reel": from -lead up to 0. */
    static void promise17TheFramesOfTheLeader() {
        ReelChanger room = Due.withProgram("00", 200);
        room.set(1, 80);
        room.begin();
        Due.passTo(room, 120);
        Due.due("not started", room.projector(1, 2), Due.NONE);
        Due.passTo(room, 121);
        Due.due("the first", room.projector(1, 2), -39);
        Due.passTo(room, 159);
        Due.due("the last", room.projector(1, 2), -1);
        Due.passTo(room, 160);
        Due.due("the reel's first", room.projector(1, 2), 0);
        Due.due("STARTING", room.projector(1, 0), STARTING);
        Due.passTo(room, 161);
        Due.due("the reel's second", room.projector(1, 2), 1);
    }

    /** "0 for the one that is worked on": "BAD_INDEX if there is no such task (for 0, too, if none is worked on)" */
    static void promise18NoneIsWorkedOn() {
        ReelChanger room = Due.withProgram("000", 100);
        Due.due("no show", room.task(0, 0), Due.BAD_INDEX);
        room.begin();
        Due.due("no tasks", room.task(0, 0), Due.BAD_INDEX);
        Due.due("no row", room.task(1, 0), Due.BAD_INDEX);
        Due.passTo(room, 80);
        Due.due("none is worked on", room.task(0, 0), Due.BAD_INDEX);
        Due.due("none is worked on", room.task(0, 1), Due.BAD_INDEX);
        Due.due("the first of the row", room.task(1, 0), CLEAR);
        Due.passTo(room, 81);
        Due.due("one is worked on", room.task(0, 0), CLEAR);
        Due.passTo(room, 111);
        Due.due("it is done", room.task(0, 0), Due.BAD_INDEX);
        Due.due("the first of the row", room.task(1, 0), THREAD);
        Due.passTo(room, 112);
        Due.due("the next is worked on", room.task(0, 0), THREAD);
        Due.due("no row", room.task(1, 0), Due.BAD_INDEX);
    }

    /** "1 and so on for those in the row, from the front": the last one, and the next. */
    static void promise18TheRow() {
        ReelChanger room = Due.showing("000", 100);
        Due.passTo(room, 80);
        Due.due("in the row", room.tell(8), 2);
        Due.due("task -1", room.task(-1, 0), Due.BAD_INDEX);
        Due.due("task 1", room.task(1, 0), CLEAR);
        Due.due("task 2", room.task(2, 0), THREAD);
        Due.due("task 3", room.task(3, 0), Due.BAD_INDEX);
        Due.passTo(room, 81);
        Due.due("in the row", room.tell(8), 1);
        Due.due("task 1", room.task(1, 0), THREAD);
        Due.due("task 2", room.task(2, 0), Due.BAD_INDEX);
        Due.due("far below", room.task(Integer.MIN_VALUE, 0), Due.BAD_INDEX);
        Due.due("far above", room.task(Integer.MAX_VALUE, 0), Due.BAD_INDEX);
    }

    /** The most tasks: both projectors have run out, and wait for a clearing and a threading each. */
    static void promise18TheMostTasks() {
        ReelChanger room = Due.withProgram("0000", 100);
        room.set(3, 200);
        room.begin();
        Due.passTo(room, 160);
        Due.due("none is READY", room.projector(0, 0), RUN_OUT);
        Due.due("in the row", room.tell(8), 3);
        int[] kinds = {CLEAR, THREAD, CLEAR, THREAD};
        int[] projectors = {0, 0, 1, 1};
        for (int task = 0; task < kinds.length; task++) {
            Due.due("task " + task, room.task(task, 0), kinds[task]);
            Due.due("its projector", room.task(task, 1), projectors[task]);
        }
        for (int task = 4; task <= 9; task++) {
            Due.due("task " + task, room.task(task, 0), Due.BAD_INDEX);
        }
    }

    /** "what: 0 for what it is, 1 for its projector", and "BAD_INDEX .. BAD_VALUE", in this order. */
    static void promise18TheNumbers() {
        ReelChanger room = Due.withProgram("00", 100);
        room.splice(0, 10, 1);
        room.begin();
        Due.passTo(room, 10);
        Due.due("no task, no number", room.task(0, 2), Due.BAD_INDEX);
        Due.due("no task, no number", room.task(2, -1), Due.BAD_INDEX);
        Due.due("no task, no number", room.task(-1, 2), Due.BAD_INDEX);
        Due.due("what -1", room.task(1, -1), Due.BAD_VALUE);
        Due.due("what 0", room.task(1, 0), REPAIR);
        Due.due("what 1", room.task(1, 1), 0);
        Due.due("what 2", room.task(1, 2), Due.BAD_VALUE);
        room.pass(1);
        Due.due("what -1", room.task(0, -1), Due.BAD_VALUE);
        Due.due("what 0", room.task(0, 0), REPAIR);
        Due.due("what 1", room.task(0, 1), 0);
        Due.due("what 2", room.task(0, 2), Due.BAD_VALUE);
        Due.due("far below", room.task(0, Integer.MIN_VALUE), Due.BAD_VALUE);
        Due.due("far above", room.task(0, Integer.MAX_VALUE), Due.BAD_VALUE);
    }
}
