/** Promises 14 to 18: the show, as long as no splice breaks. */
final class ShowTest {
    private static final int EMPTY = ReelChanger.EMPTY, READY = ReelChanger.READY, STARTING = ReelChanger.STARTING;
    private static final int SHOWING = ReelChanger.SHOWING, RUN_OUT = ReelChanger.RUN_OUT;

    static void promise14BeginNeedsAProgram() {
        ReelChanger room = Due.withReels(100);
        Due.due("begin", room.begin(), Due.NOT_POSSIBLE);
        Due.write(room, "0");
        Due.due("a text is no program", room.begin(), Due.NOT_POSSIBLE);
        Due.due("not begun", room.tell(0), 0);
    }

    static void promise14BeginWithOneReel() {
        ReelChanger room = Due.withProgram("0", 100);
        Due.due("begin", room.begin(), 1);
        Due.dueAll("told", Due.told(room), 1, 0, 0, 0, 0, 0, 0, 1, 0, 0);
        Due.dueAll("projector 0", Due.onProjector(room, 0), SHOWING, 0, 0);
        Due.dueAll("projector 1", Due.onProjector(room, 1), EMPTY, Due.NONE, Due.NONE);
        Due.due("pass", room.pass(2000), 100);
        Due.dueAll("told", Due.told(room), 0, 100, 0, 0, 0, 0, 0, 1, 0, 0);
        Due.dueAll("projector 0", Due.onProjector(room, 0), RUN_OUT, 0, Due.NONE);
    }

    static void promise14BeginInPlaceOfAShow() {
        ReelChanger room = Due.withProgram("0101", 100, 100);
        room.set(0, 90);
        room.begin();
        Due.passTo(room, 135);
        Due.due("dark ticks", room.tell(3) > 0 ? 1 : 0, 1);
        Due.due("front projector", room.tell(2), 1);
        Due.due("works", room.tell(9) > 0 ? 1 : 0, 1);
        Due.due("begin", room.begin(), 4);
        Due.dueAll("told", Due.told(room), 1, 0, 0, 0, 0, 0, 0, 2, 0, 0);
        Due.dueAll("projector 0", Due.onProjector(room, 0), SHOWING, 0, 0);
        Due.dueAll("projector 1", Due.onProjector(room, 1), READY, 1, Due.NONE);
        Due.due("no task", room.task(0, 0), Due.BAD_INDEX);
        Due.due("no task", room.task(1, 0), Due.BAD_INDEX);
        room.pass(90);
        Due.due("begin with tasks in the row", room.tell(8) > 0 ? 1 : 0, 1);
        room.begin();
        Due.due("no row", room.tell(8), 0);
    }

    static void promise14BeginCountsAnew() {
        ReelChanger room = Due.withProgram("0000", 100);
        room.set(1, 70);
        room.set(5, 200);
        room.begin();
        Due.passTo(room, 352);
        Due.dueAll("told", Due.told(room), 1, 352, 0, 201, 10, 1, 0, 3, 0, 192);
        Due.due("place", room.projector(0, 1), 2);
        room.begin();
        Due.dueAll("told", Due.told(room), 1, 0, 0, 0, 0, 0, 0, 2, 0, 0);
        Due.dueAll("projector 0", Due.onProjector(room, 0), SHOWING, 0, 0);
        room.set(0, 90);
        Due.passTo(room, 85);
        Due.due("run out", room.projector(0, 0), RUN_OUT);
        room.begin();
        room.pass(1);
        Due.dueAll("not run out any more", Due.onProjector(room, 1), READY, 1, Due.NONE);
        Due.due("not late", room.tell(5), 0);
    }

    static void promise15PassHasBounds() {
        ReelChanger room = Due.withProgram("0", 3000);
        for (int ticks : new int[] {Integer.MIN_VALUE, -1, 0, 2001, Integer.MAX_VALUE}) {
            Due.due("not begun", room.pass(ticks), Due.BAD_VALUE);
        }
        Due.due("not begun", room.pass(1), Due.NOT_POSSIBLE);
        room.begin();
        for (int ticks : new int[] {Integer.MIN_VALUE, -1, 0, 2001, Integer.MAX_VALUE}) {
            Due.due("pass " + ticks, room.pass(ticks), Due.BAD_VALUE);
        }
        Due.due("nothing passed", room.tell(1), 0);
        Due.due("one", room.pass(1), 1);
        Due.due("2000", room.pass(2000), 2000);
        Due.due("all but one of the rest", room.pass(998), 998);
        Due.due("goes on", room.tell(0), 1);
        Due.due("the last", room.pass(2), 1);
        Due.due("over", room.tell(0), 0);
        Due.due("over", room.pass(1), Due.NOT_POSSIBLE);
        Due.due("wrong, ahead of over", room.pass(0), Due.BAD_VALUE);
    }

    static void promise15AShowWithoutAGap() {
        ReelChanger room = Due.showing("012", 300, 200, 150);
        Due.passTo(room, 240);
        Due.dueAll("ahead of the mark", Due.onProjector(room, 1), READY, 1, Due.NONE);
        Due.passTo(room, 241);
        Due.dueAll("behind the mark", Due.onProjector(room, 1), STARTING, 1, -39);
        Due.passTo(room, 279);
        Due.dueAll("front", Due.onProjector(room, 0), SHOWING, 0, 279);
        Due.dueAll("back", Due.onProjector(room, 1), STARTING, 1, -1);
        Due.passTo(room, 280);
        Due.dueAll("old front", Due.onProjector(room, 0), RUN_OUT, 0, Due.NONE);
        Due.dueAll("new front", Due.onProjector(room, 1), SHOWING, 1, 0);
        Due.dueAll("told", Due.told(room), 1, 280, 1, 0, 0, 0, 0, 2, 2, 0);
        Due.passTo(room, 281);
        Due.dueAll("taken up", Due.told(room), 1, 281, 1, 0, 0, 0, 0, 2, 1, 50);
        Due.passTo(room, 330);
        Due.due("not yet cleared", room.projector(0, 0), RUN_OUT);
        Due.due("a tick is left", room.tell(9), 1);
        Due.due("it is worked on", room.task(0, 0), ReelChanger.CLEAR);
        Due.passTo(room, 331);
        Due.dueAll("cleared", Due.onProjector(room, 0), EMPTY, Due.NONE, Due.NONE);
        Due.dueAll("not yet taken up", Due.told(room), 1, 331, 1, 0, 0, 0, 0, 2, 1, 0);
        Due.passTo(room, 332);
        Due.dueAll("taken up", Due.told(room), 1, 332, 1, 0, 0, 0, 0, 2, 0, 30);
        Due.passTo(room, 362);
        Due.dueAll("threaded", Due.onProjector(room, 0), READY, 2, Due.NONE);
        Due.dueAll("told", Due.told(room), 1, 362, 1, 0, 0, 0, 0, 3, 0, 0);
        Due.passTo(room, 460);
        Due.dueAll("nothing to thread", Due.told(room), 1, 460, 0, 0, 0, 0, 0, 3, 1, 0);
        Due.passTo(room, 501);
        Due.dueAll("empty to the end", Due.onProjector(room, 1), EMPTY, Due.NONE, Due.NONE);
        Due.due("to the end", room.pass(2000), 109);
        Due.dueAll("told", Due.told(room), 0, 610, 0, 0, 0, 0, 0, 3, 0, 0);
        Due.dueAll("run out at the last frame", Due.onProjector(room, 0), RUN_OUT, 2, Due.NONE);
    }

    static void promise15ALongLeadIsDark() {
        ReelChanger room = Due.withProgram("012", 300, 200, 150);
        room.set(0, 50);
        room.begin();
        Due.passTo(room, 280);
        Due.dueAll("dark", Due.told(room), 1, 280, 0, 1, 0, 0, 0, 2, 2, 0);
        Due.passTo(room, 289);
        Due.dueAll("dark", Due.told(room), 1, 289, 0, 10, 0, 0, 0, 2, 1, 42);
        Due.passTo(room, 290);
        Due.dueAll("changed", Due.told(room), 1, 290, 1, 10, 0, 0, 0, 2, 1, 41);
        room.pass(2000);
        Due.due("time", room.tell(1), 610 + 20);
        Due.due("dark ticks", room.tell(3), 20);
        Due.due("the end is not dark", room.pass(1), Due.NOT_POSSIBLE);
    }

    static void promise15AnEarlyStartMissesFrames() {
        ReelChanger room = Due.withProgram("012", 300, 200, 150);
        room.set(1, 70);
        room.begin();
        Due.passTo(room, 279);
        Due.dueAll("waits for the change", Due.onProjector(room, 1), STARTING, 1, 9);
        Due.passTo(room, 280);
        Due.dueAll("changed", Due.onProjector(room, 1), SHOWING, 1, 10);
        Due.due("missed", room.tell(4), 10);
        room.pass(2000);
        Due.dueAll("told", Due.told(room), 0, 610 - 20, 0, 0, 20, 0, 0, 3, 0, 0);
    }

    static void promise15ALateThreadingIsLateAndDark() {
        ReelChanger room = Due.withProgram("000", 100);
        room.set(5, 200);
        room.begin();
        Due.passTo(room, 160);
        Due.dueAll("run out with nothing ready", Due.told(room), 1, 160, 1, 1, 0, 0, 0, 2, 1, 152);
        Due.due("no second threading", room.task(1, 0), ReelChanger.CLEAR);
        Due.passTo(room, 311);
        Due.due("late starts", room.tell(5), 0);
        Due.passTo(room, 312);
        Due.dueAll("threaded and started at once", Due.onProjector(room, 0), STARTING, 2, -39);
        Due.due("late starts", room.tell(5), 1);
        Due.passTo(room, 343);
        Due.dueAll("the front is cleared", Due.onProjector(room, 1), EMPTY, Due.NONE, Due.NONE);
        Due.due("and still the front", room.tell(2), 1);
        Due.passTo(room, 350);
        Due.dueAll("told", Due.told(room), 1, 350, 1, 191, 0, 1, 0, 3, 0, 0);
        Due.passTo(room, 351);
        Due.dueAll("told", Due.told(room), 1, 351, 0, 191, 0, 1, 0, 3, 0, 0);
        Due.due("to the end", room.pass(2000), 100);
        Due.dueAll("told", Due.told(room), 0, 451, 0, 191, 0, 1, 0, 3, 0, 0);
    }

    static void promise15FrontIsThreadedAgainAheadOfTheChange() {
        ReelChanger room = Due.withProgram("0123", 100, 101, 102, 103);
        int[] values = {90, 1, 50, 1, 50, 1};
        for (int i = 0; i < values.length; i++) {
            room.set(i, values[i]);
        }
        room.begin();
        Due.passTo(room, 50);
        Due.dueAll("run out ahead of the mark", Due.told(room), 1, 50, 0, 1, 0, 0, 0, 2, 2, 0);
        Due.passTo(room, 51);
        Due.dueAll("late", Due.told(room), 1, 51, 0, 2, 0, 1, 0, 2, 1, 3);
        Due.dueAll("started", Due.onProjector(room, 1), STARTING, 1, -89);
        Due.passTo(room, 54);
        Due.due("cleared", room.projector(0, 0), EMPTY);
        Due.passTo(room, 56);
        Due.dueAll("threaded", Due.onProjector(room, 0), READY, 2, Due.NONE);
        Due.passTo(room, 139);
        Due.dueAll("has still run out", Due.onProjector(room, 0), READY, 2, Due.NONE);
        Due.due("dark", room.tell(3), 90);
        Due.passTo(room, 140);
        Due.dueAll("changed", Due.told(room), 1, 140, 1, 90, 0, 1, 0, 3, 0, 0);
        Due.passTo(room, 141);
        Due.dueAll("the change ends it", Due.onProjector(room, 0), READY, 2, Due.NONE);
        Due.passTo(room, 140 + 51);
        Due.dueAll("run out, ahead of the next", Due.told(room), 1, 191, 1, 91, 0, 1, 0, 3, 2, 0);
        Due.passTo(room, 192);
        Due.dueAll("started", Due.onProjector(room, 0), STARTING, 2, -89);
        Due.due("cleared in 1 + 101 / 50 rounded up", room.tell(9), 4);
    }

    static void promise15StartIsLateBehindTheMarkOnly() {
        ReelChanger room = Due.showing("00", 300);
        Due.passTo(room, 220);
        room.set(1, 80);
        room.save(0);
        room.pass(1);
        Due.due("at the mark", room.projector(1, 0), STARTING);
        Due.due("not late", room.tell(5), 0);
        room.restore(0);
        room.set(1, 79);
        room.pass(1);
        Due.due("ahead of the mark", room.projector(1, 0), READY);
        room.restore(0);
        room.set(1, 81);
        room.pass(1);
        Due.due("behind the mark", room.projector(1, 0), STARTING);
        Due.due("late", room.tell(5), 1);
    }

    static void promise15ChangeDistanceZeroAndTheLastReel() {
        ReelChanger room = Due.withProgram("00", 100);
        room.set(2, 0);
        room.begin();
        Due.passTo(room, 99);
        Due.due("not changed", room.tell(2), 0);
        Due.passTo(room, 100);
        Due.dueAll("changed", Due.told(room), 1, 100, 1, 0, 20, 0, 0, 2, 1, 0);
        room.set(2, 50);
        Due.due("the last one is shown to its end", room.pass(2000), 80);
    }

    static void promise15ClearingTimeIsRoundedUp() {
        int[][] cases = {{100, 10, 10}, {101, 10, 11}, {109, 10, 11}, {110, 10, 11}, {100, 1, 100}, {100, 50, 2},
            {101, 50, 3}, {149, 50, 3}};
        for (int[] one : cases) {
            ReelChanger room = Due.withProgram("01", one[0], 100);
            room.set(3, 7);
            room.set(4, one[1]);
            room.begin();
            Due.passTo(room, one[0] - 20 + 1);
            Due.due("ticks for " + one[0] + " by " + one[1], room.tell(9), 7 + one[2]);
        }
    }

    static void promise15AFarFrameAtTheChangeRunsOutOneTickLater() {
        ReelChanger room = Due.withProgram("011", 200, 100);
        room.set(0, 1);
        room.set(1, 99);
        room.set(2, 0);
        room.begin();
        Due.passTo(room, 102);
        Due.dueAll("in the leader for a tick", Due.onProjector(room, 1), STARTING, 1, 0);
        room.pass(97);
        Due.due("not changed", room.tell(2), 0);
        Due.dueAll("waits", Due.onProjector(room, 1), STARTING, 1, 97);
        room.pass(1);
        Due.dueAll("changed", Due.onProjector(room, 1), SHOWING, 1, 98);
        Due.due("missed", room.tell(4), 98);
        room.set(2, 10);
        room.pass(1);
        Due.dueAll("run out", Due.onProjector(room, 1), RUN_OUT, 1, Due.NONE);
        Due.due("dark", room.tell(3), 1);
        Due.due("the row", room.tell(8), 2);
        Due.due("threading of 0", room.task(1, 0) * 10 + room.task(1, 1), 10 * ReelChanger.THREAD);
        Due.due("clearing of 1", room.task(2, 0) * 10 + room.task(2, 1), 10 * ReelChanger.CLEAR + 1);
        Due.due("no more", room.task(3, 0), Due.BAD_INDEX);
    }

    static void promise16TellHasBounds() {
        ReelChanger room = new ReelChanger();
        for (int what : new int[] {Integer.MIN_VALUE, -1, 10, 11, Integer.MAX_VALUE}) {
            Due.due("tell " + what, room.tell(what), Due.BAD_INDEX);
        }
        ReelChanger shown = Due.showing("0", 100);
        for (int what : new int[] {Integer.MIN_VALUE, -1, 10, 11, Integer.MAX_VALUE}) {
            Due.due("tell " + what, shown.tell(what), Due.BAD_INDEX);
        }
    }

    static void promise16TellsTheTasksBehindTheEnd() {
        ReelChanger room = Due.withProgram("00", 100);
        room.set(3, 200);
        room.begin();
        room.pass(2000);
        Due.dueAll("told", Due.told(room), 0, 180, 1, 0, 0, 0, 0, 2, 0, 210 - 99);
        Due.due("task", room.task(0, 0), ReelChanger.CLEAR);
        Due.due("its projector", room.task(0, 1), 0);
        Due.dueAll("not cleared", Due.onProjector(room, 0), RUN_OUT, 0, Due.NONE);
    }

    static void promise17ProjectorHasBounds() {
        ReelChanger room = Due.showing("00", 100);
        for (int projector : new int[] {Integer.MIN_VALUE, -1, 2, 3, Integer.MAX_VALUE}) {
            Due.due("projector " + projector, room.projector(projector, 3), Due.BAD_INDEX);
        }
        for (int what : new int[] {Integer.MIN_VALUE, -1, 3, Integer.MAX_VALUE}) {
            Due.due("what " + what, room.projector(0, what), Due.BAD_VALUE);
            Due.due("what " + what, room.projector(1, what), Due.BAD_VALUE);
        }
        ReelChanger empty = new ReelChanger();
        Due.due("what of an empty one", empty.projector(0, 3), Due.BAD_VALUE);
    }

    static void promise18TaskTellsKindAndProjector() {
        ReelChanger room = Due.showing("000", 100);
        for (int task = -1; task < 10; task++) {
            Due.due("no task " + task, room.task(task, 5), Due.BAD_INDEX);
        }
        Due.passTo(room, 80);
        Due.due("none is worked on", room.task(0, 0), Due.BAD_INDEX);
        Due.due("first of the row", room.task(1, 0), ReelChanger.CLEAR);
        Due.due("second of the row", room.task(2, 0), ReelChanger.THREAD);
        Due.due("no third", room.task(3, 0), Due.BAD_INDEX);
        Due.passTo(room, 81);
        Due.due("worked on", room.task(0, 0), ReelChanger.CLEAR);
        Due.due("its projector", room.task(0, 1), 0);
        Due.due("first of the row", room.task(1, 0), ReelChanger.THREAD);
        Due.due("no second", room.task(2, 0), Due.BAD_INDEX);
        for (int what : new int[] {Integer.MIN_VALUE, -1, 2, Integer.MAX_VALUE}) {
            Due.due("what " + what, room.task(0, what), Due.BAD_VALUE);
            Due.due("what " + what, room.task(1, what), Due.BAD_VALUE);
            Due.due("what without a task " + what, room.task(2, what), Due.BAD_INDEX);
        }
        for (int far : Due.FAR) {
            Due.due("task " + far, room.task(far, 0), Due.BAD_INDEX);
        }
        room.set(3, 150);
        Due.passTo(room, 161);
        Due.due("the clearing of 1", room.task(0, 0), ReelChanger.CLEAR);
        Due.due("its projector", room.task(0, 1), 1);
    }
}
