import java.util.ArrayList;
import java.util.List;
import java.util.function.Supplier;
import java.util.function.ToLongFunction;

/** "A call that reports an error changes nothing": a room in which it is refused goes on as one in which it is not made. */
final class RefusalTest {
    /** A room with ten reels, a full one among them, in a show that has broken while a task is worked on. */
    private static ReelChanger busy() {
        ReelChanger room = Due.withReels(100, 120, 140, 160, 180, 200, 220, 240, 260, 280);
        for (int i = 1; i <= 6; i++) {
            room.splice(0, 5 * i, 5);
        }
        room.splice(1, 3, 1);
        room.splice(2, 7, 1);
        room.save(0);
        Due.write(room, "(012)x4");
        room.setProgram();
        room.set(0, 41);
        room.begin();
        Due.passTo(room, 84);
        Due.due("broken", room.projector(1, 0), ReelChanger.BROKEN);
        Due.due("tasks", room.tell(8), 2);
        Due.due("one is worked on", room.task(0, 0), ReelChanger.CLEAR);
        return room;
    }

    /** The same behind the end of the show, with a text of 13 reels. */
    private static ReelChanger over() {
        ReelChanger room = busy();
        room.pass(2000);
        Due.due("over", room.tell(0), 0);
        Due.write(room, "(0)x9(1)x4");
        return room;
    }

    private static ReelChanger withFullText() {
        ReelChanger room = busy();
        Due.write(room, "(0)x9(1)x3" + "0".repeat(50));
        return room;
    }

    private static ReelChanger withFault() {
        ReelChanger room = over();
        Due.write(room, "01(");
        return room;
    }

    private static ReelChanger withoutProgram() {
        ReelChanger room = Due.withReels(100, 100);
        Due.write(room, "01");
        return room;
    }

    private static ReelChanger longShow() {
        return Due.showing("(0)x61", 3000, 2121);
    }

    /** All that a room tells, and what becomes of it: its show to the end, its text as a program, its slots. */
    private static List<Long> everything(ReelChanger room) {
        List<Long> answers = new ArrayList<>();
        addState(answers, room);
        while (room.tell(0) == 1) {
            answers.add((long) room.pass(2000));
        }
        addState(answers, room);
        answers.add((long) room.setProgram());
        for (int what = 0; what < 9; what++) {
            answers.add((long) room.append("(0)x2(1)x3".charAt(what)));
        }
        answers.add((long) room.faultPosition());
        answers.add((long) room.setProgram());
        addState(answers, room);
        for (int slot = 0; slot <= 1; slot++) {
            answers.add((long) room.restore(slot));
            addState(answers, room);
        }
        return answers;
    }

    private static void addState(List<Long> answers, ReelChanger room) {
        answers.add(room.checksum());
        answers.add((long) room.faultPosition());
        answers.add((long) room.faultDepth());
        for (int place : Due.program(room)) {
            answers.add((long) place);
        }
        for (int what = 0; what <= 4; what++) {
            answers.add((long) room.forecast(what));
        }
    }

    private static void refuses(Supplier<ReelChanger> make, String call, ToLongFunction<ReelChanger> made, long error) {
        ReelChanger room = make.get();
        List<Long> want = everything(make.get());
        Due.due(call, made.applyAsLong(room), error);
        List<Long> got = everything(room);
        Due.due(call + ": answers behind it", got.size(), want.size());
        for (int i = 0; i < want.size(); i++) {
            Due.due(call + ": answer " + i + " behind it", got.get(i), want.get(i));
        }
    }

    static void promise02ARefusedReelChangesNothing() {
        refuses(RefusalTest::busy, "makeReel(99)", room -> room.makeReel(99), Due.BAD_VALUE);
        refuses(RefusalTest::withoutProgram, "makeReel(3001)", room -> room.makeReel(3001), Due.BAD_VALUE);
        refuses(RefusalTest::busy, "makeReel(100)", room -> room.makeReel(100), Due.FULL);
        refuses(RefusalTest::over, "makeReel(3000)", room -> room.makeReel(3000), Due.FULL);
    }

    static void promise03ARefusedSpliceChangesNothing() {
        refuses(RefusalTest::busy, "splice(-1, 5, 1)", room -> room.splice(-1, 5, 1), Due.BAD_INDEX);
        refuses(RefusalTest::busy, "splice(10, 5, 1)", room -> room.splice(10, 5, 1), Due.BAD_INDEX);
        refuses(RefusalTest::busy, "splice(0, 0, 1)", room -> room.splice(0, 0, 1), Due.BAD_VALUE);
        refuses(RefusalTest::busy, "splice(0, 100, 1)", room -> room.splice(0, 100, 1), Due.BAD_VALUE);
        refuses(RefusalTest::busy, "splice(0, 5, 0)", room -> room.splice(0, 5, 0), Due.BAD_VALUE);
        refuses(RefusalTest::busy, "splice(0, 5, 10)", room -> room.splice(0, 5, 10), Due.BAD_VALUE);
        refuses(RefusalTest::busy, "splice(0, 6, 1)", room -> room.splice(0, 6, 1), Due.FULL);
        refuses(RefusalTest::busy, "splice(0, 99, 9)", room -> room.splice(0, 99, 9), Due.FULL);
    }

    static void promise04ARefusedMendChangesNothing() {
        refuses(RefusalTest::busy, "mend(-1, 10)", room -> room.mend(-1, 10), Due.BAD_INDEX);
        refuses(RefusalTest::busy, "mend(10, 10)", room -> room.mend(10, 10), Due.BAD_INDEX);
        refuses(RefusalTest::busy, "mend(0, 11)", room -> room.mend(0, 11), Due.BAD_VALUE);
        refuses(RefusalTest::busy, "mend(1, 0)", room -> room.mend(1, 0), Due.BAD_VALUE);
    }

    static void promise05And06ARefusedQuestionChangesNothing() {
        refuses(RefusalTest::busy, "reel(10, 0)", room -> room.reel(10, 0), Due.BAD_INDEX);
        refuses(RefusalTest::busy, "reel(0, 3)", room -> room.reel(0, 3), Due.BAD_VALUE);
        refuses(RefusalTest::busy, "spliceAt(10, 0, true)", room -> room.spliceAt(10, 0, true), Due.BAD_INDEX);
        refuses(RefusalTest::busy, "spliceAt(0, 6, true)", room -> room.spliceAt(0, 6, true), Due.BAD_INDEX);
    }

    static void promise07ARefusedSettingChangesNothing() {
        refuses(RefusalTest::busy, "set(-1, 10)", room -> room.set(-1, 10), Due.BAD_INDEX);
        refuses(RefusalTest::busy, "set(8, 10)", room -> room.set(8, 10), Due.BAD_INDEX);
        int[] least = {1, 1, 0, 1, 1, 1, 1, 0};
        int[] most = {90, 99, 50, 200, 50, 200, 500, 20};
        for (int i = 0; i < 8; i++) {
            int setting = i;
            refuses(RefusalTest::busy, "set below " + i, room -> room.set(setting, least[setting] - 1), Due.BAD_VALUE);
            refuses(RefusalTest::busy, "set above " + i, room -> room.set(setting, most[setting] + 1), Due.BAD_VALUE);
        }
    }

    static void promise08ARefusedLetterChangesNothing() {
        refuses(RefusalTest::over, "append(-1)", room -> room.append(-1), Due.BAD_VALUE);
        refuses(RefusalTest::over, "append(128)", room -> room.append(128), Due.BAD_VALUE);
        refuses(RefusalTest::withFullText, "append('0')", room -> room.append('0'), Due.FULL);
        refuses(RefusalTest::withFullText, "append('x')", room -> room.append('x'), Due.FULL);
        refuses(RefusalTest::withFullText, "append(128)", room -> room.append(128), Due.BAD_VALUE);
    }

    static void promise12ARefusedProgramChangesNothing() {
        refuses(RefusalTest::busy, "setProgram() in a show", ReelChanger::setProgram, Due.NOT_POSSIBLE);
        refuses(RefusalTest::over, "setProgram() of 13", ReelChanger::setProgram, Due.FULL);
        refuses(RefusalTest::withFault, "setProgram() of a fault", ReelChanger::setProgram, Due.NOT_POSSIBLE);
        refuses(RefusalTest::withFault, "program(12)", room -> room.program(12), Due.BAD_INDEX);
    }

    /** A text that is too long by its last reel, of one that is set already: what was read of it is not taken. */
    static void promise12AProgramThatIsFullKeepsTheOldOne() {
        ReelChanger room = Due.withProgram("000000000000", 100, 100);
        Due.write(room, "1111111111111");
        Due.due("setProgram", room.setProgram(), Due.FULL);
        Due.dueAll("program", Due.program(room), 0, 0, 0, 0, 0, 0, 0, 0, 0, 0, 0, 0);
    }

    static void promise14And15ARefusedShowChangesNothing() {
        refuses(RefusalTest::withoutProgram, "begin()", ReelChanger::begin, Due.NOT_POSSIBLE);
        refuses(RefusalTest::withoutProgram, "pass(1)", room -> room.pass(1), Due.NOT_POSSIBLE);
        refuses(RefusalTest::busy, "pass(0)", room -> room.pass(0), Due.BAD_VALUE);
        refuses(RefusalTest::busy, "pass(2001)", room -> room.pass(2001), Due.BAD_VALUE);
        refuses(RefusalTest::over, "pass(1)", room -> room.pass(1), Due.NOT_POSSIBLE);
        refuses(RefusalTest::over, "pass(2000)", room -> room.pass(2000), Due.NOT_POSSIBLE);
    }

    static void promise16To18ARefusedQuestionChangesNothing() {
        refuses(RefusalTest::busy, "tell(-1)", room -> room.tell(-1), Due.BAD_INDEX);
        refuses(RefusalTest::busy, "tell(10)", room -> room.tell(10), Due.BAD_INDEX);
        refuses(RefusalTest::busy, "projector(2, 0)", room -> room.projector(2, 0), Due.BAD_INDEX);
        refuses(RefusalTest::busy, "projector(0, 3)", room -> room.projector(0, 3), Due.BAD_VALUE);
        refuses(RefusalTest::busy, "task(3, 0)", room -> room.task(3, 0), Due.BAD_INDEX);
        refuses(RefusalTest::busy, "task(0, 2)", room -> room.task(0, 2), Due.BAD_VALUE);
    }

    /** "(nothing is changed by them)": by a forecast that is told, too. */
    static void promise19AForecastChangesNothing() {
        refuses(RefusalTest::busy, "forecast(-1)", room -> room.forecast(-1), Due.BAD_INDEX);
        refuses(RefusalTest::busy, "forecast(5)", room -> room.forecast(5), Due.BAD_INDEX);
        refuses(RefusalTest::over, "forecast(0)", room -> room.forecast(0), Due.NOT_POSSIBLE);
        refuses(RefusalTest::longShow, "forecast(0)", room -> room.forecast(0), Due.NONE);
        long breaks = busy().forecast(4);
        Due.due("a break is forecast", breaks > 1 ? 1 : 0, 1);
        refuses(RefusalTest::busy, "forecast(4)", room -> room.forecast(4), breaks);
    }

    /** The same of darkWith(). */
    static void promise20AForecastChangesNothing() {
        refuses(RefusalTest::busy, "darkWith(8, 1)", room -> room.darkWith(8, 1), Due.BAD_INDEX);
        refuses(RefusalTest::busy, "darkWith(0, 91)", room -> room.darkWith(0, 91), Due.BAD_VALUE);
        refuses(RefusalTest::withoutProgram, "darkWith(0, 90)", room -> room.darkWith(0, 90), Due.NOT_POSSIBLE);
        refuses(RefusalTest::longShow, "darkWith(0, 40)", room -> room.darkWith(0, 40), Due.NONE);
        long dark = busy().darkWith(0, 90);
        Due.due("some is dark", dark > 0 ? 1 : 0, 1);
        refuses(RefusalTest::busy, "darkWith(0, 90)", room -> room.darkWith(0, 90), dark);
        refuses(RefusalTest::over, "checksum()", ReelChanger::checksum, over().checksum());
        refuses(RefusalTest::busy, "checksum()", ReelChanger::checksum, busy().checksum());
    }

    static void promise21And22ARefusedSlotChangesNothing() {
        refuses(RefusalTest::busy, "save(-1)", room -> room.save(-1), Due.BAD_INDEX);
        refuses(RefusalTest::busy, "save(2)", room -> room.save(2), Due.BAD_INDEX);
        refuses(RefusalTest::busy, "restore(-1)", room -> room.restore(-1), Due.BAD_INDEX);
        refuses(RefusalTest::busy, "restore(2)", room -> room.restore(2), Due.BAD_INDEX);
        refuses(RefusalTest::busy, "restore(1)", room -> room.restore(1), Due.NOT_POSSIBLE);
    }
}
