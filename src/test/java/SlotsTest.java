/** Promises 21 to 23: the slots and the checksum. */
final class SlotsTest {
    static void promise21SaveAnswersTheReels() {
        ReelChanger room = new ReelChanger();
        Due.due("save(0)", room.save(0), 0);
        room.makeReel(100);
        room.makeReel(200);
        Due.due("save(1)", room.save(1), 2);
        for (int slot : new int[] {Integer.MIN_VALUE, -1, 2, 3, Integer.MAX_VALUE}) {
            Due.due("save " + slot, room.save(slot), Due.BAD_INDEX);
            Due.due("restore " + slot, room.restore(slot), Due.BAD_INDEX);
        }
        Due.due("restore(0)", room.restore(0), 0);
        Due.due("no reels", room.reel(0, 0), Due.BAD_INDEX);
        Due.due("restore(1)", room.restore(1), 2);
        Due.due("reels", room.reel(1, 0), 200);
        Due.due("a third reel", room.makeReel(300), 2);
    }

    static void promise21SaveTakesThePlaceOfWhatWasKept() {
        ReelChanger room = Due.withReels(100);
        room.save(0);
        room.splice(0, 50, 5);
        room.set(0, 1);
        room.save(0);
        room.mend(0, 10);
        room.set(0, 2);
        Due.due("restore", room.restore(0), 1);
        Due.dueAll("splices", Due.splices(room, 0), 50, 5);
        Due.due("lead", room.set(0, 3), 1);
        Due.due("the other slot", room.restore(1), Due.NOT_POSSIBLE);
    }

    static void promise22RestoreBringsEverythingBack() {
        ReelChanger room = Due.withProgram("0101", 100, 120);
        room.splice(0, 70, 2);
        room.splice(1, 3, 1);
        room.set(0, 42);
        room.begin();
        Due.passTo(room, 90);
        Due.due("broken", room.projector(1, 0), ReelChanger.BROKEN);
        long sum = room.checksum();
        int[] told = Due.told(room);
        int end = room.forecast(0);
        room.save(0);
        room.pass(300);
        room.mend(0, 10);
        room.splice(0, 1, 1);
        room.makeReel(500);
        room.set(3, 99);
        room.begin();
        Due.due("restore", room.restore(0), 2);
        Due.due("checksum", room.checksum(), sum);
        Due.dueAll("told", Due.told(room), told);
        Due.due("clearing time", room.set(3, 20), 20);
        Due.due("no reel 2", room.reel(2, 0), Due.BAD_INDEX);
        room.pass(2000);
        Due.due("the same end", room.tell(1), end);
        Due.due("the slot keeps it", room.restore(0), 2);
        Due.due("checksum", room.checksum(), sum);
    }

    static void promise22TextAndSlotsStay() {
        ReelChanger room = Due.withProgram("0", 100);
        room.save(0);
        room.makeReel(100);
        room.save(1);
        Due.write(room, "(01)x2");
        room.setProgram();
        Due.due("restore(0)", room.restore(0), 1);
        Due.dueAll("program", Due.program(room), 0);
        Due.due("the text stays, with a fault now", room.faultPosition(), 2);
        Due.due("restore(1)", room.restore(1), 2);
        Due.due("no fault", room.faultPosition(), Due.NONE);
        Due.dueAll("program", Due.program(room), 0);
        Due.due("text", room.clearText(), 6);
    }

    static void promise22AReelMadeAnewHasNoSplices() {
        ReelChanger room = new ReelChanger();
        room.save(0);
        room.makeReel(100);
        room.splice(0, 10, 1);
        room.save(1);
        room.restore(0);
        Due.due("makeReel", room.makeReel(200), 0);
        Due.due("length", room.reel(0, 0), 200);
        Due.due("splices", room.reel(0, 1), 0);
        room.restore(1);
        Due.dueAll("splices", Due.splices(room, 0), 10, 1);
    }

    static void promise22AShowThatIsOverAndOneThatIsNone() {
        ReelChanger room = Due.withProgram("00", 100);
        room.save(1);
        room.begin();
        room.pass(2000);
        int[] told = Due.told(room);
        room.save(0);
        room.begin();
        room.pass(50);
        room.restore(0);
        Due.dueAll("over", Due.told(room), told);
        Due.due("pass", room.pass(1), Due.NOT_POSSIBLE);
        room.restore(1);
        Due.dueAll("none has begun", Due.told(room), 0, 0, 0, 0, 0, 0, 0, 0, 0, 0);
        Due.due("projector", room.projector(0, 0), ReelChanger.EMPTY);
        Due.due("begin", room.begin(), 2);
    }

    /** The checksum of the document, of what the room answers. */
    private static long sum(ReelChanger room) {
        long h = 139;
        int reels = 0;
        while (room.reel(reels, 0) != Due.BAD_INDEX) {
            reels++;
        }
        h = 31 * h + reels;
        for (int reel = 0; reel < reels; reel++) {
            for (int what = 0; what < 3; what++) {
                h = 31 * h + room.reel(reel, what);
            }
            for (int number : Due.splices(room, reel)) {
                h = 31 * h + number;
            }
        }
        int[] least = {1, 1, 0, 1, 1, 1, 1, 0};
        for (int setting = 0; setting < 8; setting++) {
            int value = room.set(setting, least[setting]);
            room.set(setting, value);
            h = 31 * h + value;
        }
        int[] program = Due.program(room);
        h = 31 * h + program.length;
        for (int number : program) {
            h = 31 * h + number;
        }
        for (int number : Due.told(room)) {
            h = 31 * h + number;
        }
        for (int projector = 0; projector < 2; projector++) {
            for (int number : Due.onProjector(room, projector)) {
                h = 31 * h + number;
            }
        }
        for (int task = 0; task <= 8; task++) {
            if (room.task(task, 0) != Due.BAD_INDEX) {
                h = 31 * h + room.task(task, 0);
                h = 31 * h + room.task(task, 1);
            }
        }
        if (room.tell(0) == 1) {
            h = 31 * h + room.forecast(0);
            h = 31 * h + room.forecast(1);
        }
        return h;
    }

    static void promise23ChecksumOfTheDocument() {
        ReelChanger room = Due.withProgram("(01)x2", 100, 120);
        Due.due("not begun", room.checksum(), sum(room));
        room.splice(0, 70, 2);
        room.splice(0, 30, 3);
        room.splice(1, 3, 1);
        room.begin();
        for (int i = 0; i < 30; i++) {
            Due.due("checksum at " + room.tell(1), room.checksum(), sum(room));
            room.pass(27);
        }
        Due.due("over", room.tell(0), 0);
        Due.due("over", room.checksum(), sum(room));
    }

    static void promise23ChecksumWithoutAForecast() {
        ReelChanger room = Due.withProgram("(0)x9", 3000);
        room.begin();
        Due.due("no forecast", room.forecast(0), Due.NONE);
        Due.due("checksum", room.checksum(), sum(room));
    }

    /** It was computed apart from the class, from the document alone. */
    static void promise23ChecksumOfANewObject() {
        Due.due("checksum", new ReelChanger().checksum(), NEW_OBJECT);
        Due.due("checksum again", new ReelChanger().checksum(), NEW_OBJECT);
    }

    private static final long NEW_OBJECT = 1457912067185859779L;
}
