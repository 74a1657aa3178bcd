import java.math.BigInteger;
import java.util.ArrayList;
import java.util.List;

/** Promises 19 to 23 at their bounds: a test for each sentence that names one, just within it and just beyond it. */
final class ForecastBoundsTest {
    private static final int[] LEAST = {1, 1, 0, 1, 1, 1, 1, 0};
    private static final int[] MOST = {90, 99, 50, 200, 50, 200, 500, 20};

    /** A program that is shown in 17880 ticks and those of its last reel. */
    private static ReelChanger longProgram(int last) {
        return Due.withProgram("(0)x61", 3000, last);
    }

    private static ReelChanger longShow(int last) {
        ReelChanger room = longProgram(last);
        Due.due("begin", room.begin(), 7);
        return room;
    }

    private static ReelChanger over() {
        ReelChanger room = Due.showing("0", 100);
        room.pass(100);
        return room;
    }

    /** "what: 0 .. 4" */
    static void promise19TheNumbers() {
        ReelChanger room = Due.withProgram("000", 100);
        room.splice(0, 10, 1);
        room.splice(0, 20, 1);
        room.set(1, 70);
        room.set(5, 200);
        room.begin();
        Due.due("what -1", room.forecast(-1), Due.BAD_INDEX);
        Due.due("what 5", room.forecast(5), Due.BAD_INDEX);
        Due.due("far below", room.forecast(Integer.MIN_VALUE), Due.BAD_INDEX);
        Due.due("far above", room.forecast(Integer.MAX_VALUE), Due.BAD_INDEX);
        int[] forecast = new int[5];
        for (int what = 0; what < 5; what++) {
            forecast[what] = room.forecast(what);
        }
        room.pass(2000);
        int[] told = {room.tell(1), room.tell(3), room.tell(4), room.tell(5), room.tell(6)};
        Due.dueAll("forecast", forecast, told);
        Due.dueAll("each of its own", new int[] {told[2], told[3], told[4]}, 10, 1, 2);
    }

    /** "NOT_POSSIBLE if no show has begun, or it is over", behind BAD_INDEX. */
    static void promise19NoShow() {
        ReelChanger room = Due.withProgram("0", 100);
        Due.due("not begun", room.forecast(0), Due.NOT_POSSIBLE);
        Due.due("not begun", room.forecast(4), Due.NOT_POSSIBLE);
        Due.due("not begun, no number", room.forecast(-1), Due.BAD_INDEX);
        Due.due("not begun, no number", room.forecast(5), Due.BAD_INDEX);
        Due.due("over", over().forecast(0), Due.NOT_POSSIBLE);
        Due.due("over", over().forecast(4), Due.NOT_POSSIBLE);
        Due.due("over, no number", over().forecast(5), Due.BAD_INDEX);
    }

    /** From its begin up to the tick ahead of its end. */
    static void promise19UpToTheLastTick() {
        ReelChanger room = Due.showing("0", 100);
        Due.due("at its begin", room.forecast(0), 100);
        room.pass(99);
        Due.due("ahead of its last tick", room.forecast(0), 100);
        room.pass(1);
        Due.due("over", room.forecast(0), Due.NOT_POSSIBLE);
    }

    /** "NONE if it is not over within 20000 ticks" */
    static void promise19TwentyThousandTicks() {
        Due.due("19999", longShow(2119).forecast(0), 19999);
        Due.due("20000", longShow(2120).forecast(0), 20000);
        ReelChanger room = longShow(2121);
        for (int what = 0; what < 5; what++) {
            Due.due("20001", room.forecast(what), Due.NONE);
        }
    }

    /** "from now on": not from the begin of the show. */
    static void promise19FromNowOn() {
        ReelChanger room = longShow(2122);
        Due.due("20002 ticks", room.forecast(0), Due.NONE);
        room.pass(1);
        Due.due("20001 ticks", room.forecast(1), Due.NONE);
        room.pass(1);
        Due.due("20000 ticks", room.forecast(0), 20002);
        Due.due("their dark ones", room.forecast(1), 0);
    }

    /** NONE "is returned only if no error applies". */
    static void promise19NoneIsToldBehindErrors() {
        ReelChanger room = longProgram(2121);
        Due.due("not begun", room.forecast(0), Due.NOT_POSSIBLE);
        room.begin();
        Due.due("no number", room.forecast(5), Due.BAD_INDEX);
        Due.due("too long", room.forecast(4), Due.NONE);
    }

    /** "setting: 0 to 7" */
    static void promise20TheSettings() {
        ReelChanger room = Due.withProgram("0", 100);
        Due.due("setting -1", room.darkWith(-1, 10), Due.BAD_INDEX);
        Due.due("setting 0", room.darkWith(0, 10), 0);
        Due.due("setting 7", room.darkWith(7, 10), 0);
        Due.due("setting 8", room.darkWith(8, 10), Due.BAD_INDEX);
        Due.due("far below", room.darkWith(Integer.MIN_VALUE, 10), Due.BAD_INDEX);
        Due.due("far above", room.darkWith(Integer.MAX_VALUE, 10), Due.BAD_INDEX);
    }

    /** "value: in the range of this setting" */
    static void promise20TheValues() {
        ReelChanger room = Due.withProgram("0", 100);
        for (int setting = 0; setting < 8; setting++) {
            Due.due("below " + setting, room.darkWith(setting, LEAST[setting] - 1), Due.BAD_VALUE);
            Due.due("least " + setting, room.darkWith(setting, LEAST[setting]), 0);
            Due.due("most " + setting, room.darkWith(setting, MOST[setting]), 0);
            Due.due("above " + setting, room.darkWith(setting, MOST[setting] + 1), Due.BAD_VALUE);
            Due.due("far below " + setting, room.darkWith(setting, Integer.MIN_VALUE), Due.BAD_VALUE);
            Due.due("far above " + setting, room.darkWith(setting, Integer.MAX_VALUE), Due.BAD_VALUE);
        }
    }

    /** The least and the most of a setting have their effect. */
    static void promise20TheLeastAndTheMostValue() {
        ReelChanger room = Due.withProgram("00", 100);
        Due.due("lead 1", room.darkWith(0, 1), 0);
        Due.due("lead 90", room.darkWith(0, 90), 50);
        Due.due("start distance 1", room.darkWith(1, 1), 1 + 39);
        Due.due("start distance 99", room.darkWith(1, 99), 0);
        Due.due("change distance 0", room.darkWith(2, 0), 0);
        Due.due("change distance 50", room.darkWith(2, 50), 30);
        room.splice(0, 30, 1);
        Due.due("repair 1", room.darkWith(6, 1), 2);
        Due.due("repair 500", room.darkWith(6, 500), 501);
        room.splice(0, 31, 1);
        room.splice(0, 51, 1);
        Due.due("lost 0", room.darkWith(7, 0), 303 + 11);
        // The frame 31 is lost at the first place, and breaks at the second.
        Due.due("lost 20", room.darkWith(7, 20), 303 + 31);
    }

    /** "BAD_INDEX; BAD_VALUE; NOT_POSSIBLE if the program is empty; NONE", in this order. */
    static void promise20TheOrderOfErrors() {
        ReelChanger room = Due.withReels(100);
        Due.due("no setting, no value, no program", room.darkWith(8, -1), Due.BAD_INDEX);
        Due.due("no setting, no program", room.darkWith(-1, 10), Due.BAD_INDEX);
        Due.due("no value, no program", room.darkWith(0, 0), Due.BAD_VALUE);
        Due.due("no value, no program", room.darkWith(0, 91), Due.BAD_VALUE);
        Due.due("no program", room.darkWith(0, 90), Due.NOT_POSSIBLE);
        Due.due("no program", room.darkWith(0, 1), Due.NOT_POSSIBLE);
        ReelChanger other = longProgram(2121);
        Due.due("no setting, too long", other.darkWith(8, 1), Due.BAD_INDEX);
        Due.due("no value, too long", other.darkWith(0, 0), Due.BAD_VALUE);
        Due.due("too long", other.darkWith(0, 40), Due.NONE);
    }

    /** "NONE if it were not over within 20000 ticks": a whole show, whatever has been shown. */
    static void promise20TwentyThousandTicks() {
        Due.due("20000", longProgram(2120).darkWith(0, 40), 0);
        Due.due("20001", longProgram(2121).darkWith(0, 40), Due.NONE);
        Due.due("20000 of another lead", longProgram(2114).darkWith(0, 41), 6);
        Due.due("20001 of another lead", longProgram(2115).darkWith(0, 41), Due.NONE);
        ReelChanger room = longShow(2121);
        room.pass(2000);
        Due.due("a show that begins now", room.darkWith(0, 40), Due.NONE);
    }

    /** "a show that begins now": with none begun, in one, and behind its end. */
    static void promise20AShowThatBeginsNow() {
        ReelChanger room = Due.withProgram("00", 100);
        Due.due("not begun", room.darkWith(0, 50), 10);
        room.begin();
        Due.due("begun", room.darkWith(0, 50), 10);
        room.pass(179);
        Due.due("ahead of its last tick", room.darkWith(0, 50), 10);
        room.pass(1);
        Due.due("over", room.darkWith(0, 50), 10);
        Due.due("still over", room.tell(0), 0);
        Due.due("not another lead", room.set(0, 40), 40);
    }

    /** "slot: 0 or 1" */
    static void promise21TheSlots() {
        ReelChanger room = Due.withReels(100);
        Due.due("slot -1", room.save(-1), Due.BAD_INDEX);
        Due.due("slot 0", room.save(0), 1);
        Due.due("slot 1", room.save(1), 1);
        Due.due("slot 2", room.save(2), Due.BAD_INDEX);
        Due.due("far below", room.save(Integer.MIN_VALUE), Due.BAD_INDEX);
        Due.due("far above", room.save(Integer.MAX_VALUE), Due.BAD_INDEX);
    }

    /** "Returns the number of reels": from none to ten. */
    static void promise21And22FromNoReelToTen() {
        ReelChanger room = new ReelChanger();
        for (int reels = 0; reels <= 10; reels++) {
            Due.due("save", room.save(reels % 2), reels);
            Due.due("restore", room.restore(reels % 2), reels);
            Due.due("makeReel", room.makeReel(100), reels < 10 ? reels : Due.FULL);
            room.splice(reels, 50, 5);
        }
        Due.due("restore of nine", room.restore(1), 9);
        Due.due("the 10th anew", room.makeReel(200), 9);
        Due.due("its splices", room.reel(9, 1), 0);
        Due.due("restore of ten", room.restore(0), 10);
        Due.due("the 10th", room.reel(9, 0), 100);
        Due.due("an 11th", room.makeReel(200), Due.FULL);
    }

    /** "slot: 0 or 1" */
    static void promise22TheSlots() {
        ReelChanger room = Due.withReels(100);
        room.save(0);
        room.save(1);
        Due.due("slot -1", room.restore(-1), Due.BAD_INDEX);
        Due.due("slot 0", room.restore(0), 1);
        Due.due("slot 1", room.restore(1), 1);
        Due.due("slot 2", room.restore(2), Due.BAD_INDEX);
        Due.due("far below", room.restore(Integer.MIN_VALUE), Due.BAD_INDEX);
        Due.due("far above", room.restore(Integer.MAX_VALUE), Due.BAD_INDEX);
    }

    /** "NOT_POSSIBLE if nothing has been saved in the slot": though in the other one; behind BAD_INDEX. */
    static void promise22NothingSaved() {
        ReelChanger room = Due.withReels(100);
        Due.due("slot 0", room.restore(0), Due.NOT_POSSIBLE);
        Due.due("slot 1", room.restore(1), Due.NOT_POSSIBLE);
        Due.due("slot 2", room.restore(2), Due.BAD_INDEX);
        Due.due("save", room.save(0), 1);
        Due.due("slot 1", room.restore(1), Due.NOT_POSSIBLE);
        Due.due("slot 0", room.restore(0), 1);
        Due.due("save", room.save(1), 1);
        Due.due("slot 1", room.restore(1), 1);
    }

    /** "Makes everything except the text and the slots as it was saved": an empty room, too. */
    static void promise22AnEmptyRoom() {
        ReelChanger room = new ReelChanger();
        long sum = room.checksum();
        room.save(0);
        for (int length = 100; length < 110; length++) {
            room.makeReel(length);
        }
        room.splice(9, 1, 1);
        Due.write(room, "012345678901");
        room.setProgram();
        room.set(7, 0);
        room.begin();
        room.pass(500);
        Due.due("restore", room.restore(0), 0);
        Due.due("checksum", room.checksum(), sum);
        Due.due("program", room.program(0), Due.BAD_INDEX);
        Due.due("begin", room.begin(), Due.NOT_POSSIBLE);
        Due.due("a fault now", room.faultPosition(), 0);
        Due.due("text", room.clearText(), 12);
    }

    /** "The slot keeps it.": restored twice; and what is saved in the other slot is its own. */
    static void promise22TheSlotKeepsIt() {
        ReelChanger room = Due.withReels(100);
        room.splice(0, 50, 5);
        room.save(0);
        room.splice(0, 50, 6);
        room.save(1);
        for (int time = 0; time < 2; time++) {
            room.splice(0, 50, 1);
            Due.due("restore(0)", room.restore(0), 1);
            Due.due("strength", room.reel(0, 2), 5);
            Due.due("restore(1)", room.restore(1), 1);
            Due.due("strength", room.reel(0, 2), 6);
        }
    }

    /** "Makes everything .. as it was saved": the task that is worked on, and the row, in place of others. */
    static void promise22TheTasks() {
        ReelChanger room = Due.showing("0000", 100);
        Due.passTo(room, 81);
        room.save(0);
        Due.passTo(room, 112);
        room.save(1);
        room.pass(100);
        Due.due("other tasks", room.task(0, 1), 1);
        room.restore(0);
        Due.dueAll("clearing", new int[] {room.task(0, 0), room.task(0, 1), room.tell(9)}, ReelChanger.CLEAR, 0, 30);
        Due.dueAll("the row", new int[] {room.tell(8), room.task(1, 0), room.task(1, 1)}, 1, ReelChanger.THREAD, 0);
        room.restore(1);
        Due.dueAll("threading", new int[] {room.task(0, 0), room.task(0, 1), room.tell(9)}, ReelChanger.THREAD, 0, 30);
        Due.due("no row", room.tell(8), 0);
    }

    /** What the checksum is made of, as the room answers it; each setting is found by set(), and put back. */
    private static List<Integer> summed(ReelChanger room) {
        List<Integer> values = new ArrayList<>();
        int reels = 0;
        while (room.reel(reels, 0) != Due.BAD_INDEX) {
            reels++;
        }
        values.add(reels);
        for (int reel = 0; reel < reels; reel++) {
            for (int what = 0; what <= 2; what++) {
                values.add(room.reel(reel, what));
            }
            addAll(values, Due.splices(room, reel));
        }
        for (int setting = 0; setting <= 7; setting++) {
            int value = room.set(setting, LEAST[setting]);
            room.set(setting, value);
            values.add(value);
        }
        int[] program = Due.program(room);
        values.add(program.length);
        addAll(values, program);
        addAll(values, Due.told(room));
        addAll(values, Due.onProjector(room, 0));
        addAll(values, Due.onProjector(room, 1));
        for (int task = 0; task <= 8; task++) {
            if (room.task(task, 0) != Due.BAD_INDEX) {
                values.add(room.task(task, 0));
                values.add(room.task(task, 1));
            }
        }
        if (room.tell(0) == 1) {
            values.add(room.forecast(0));
            values.add(room.forecast(1));
        }
        return values;
    }

    private static void addAll(List<Integer> values, int[] more) {
        for (int value : more) {
            values.add(value);
        }
    }

    /** The sum without an end to its digits; the checksum is what longs keep of it. */
    private static BigInteger sum(List<Integer> values) {
        BigInteger h = BigInteger.valueOf(139);
        for (int value : values) {
            h = h.multiply(BigInteger.valueOf(31)).add(BigInteger.valueOf(value));
        }
        return h;
    }

    private static void sumsUp(ReelChanger room) {
        Due.due("checksum", room.checksum(), sum(summed(room)).longValue());
    }

    /** "(as longs, with overflow)" */
    static void promise23WithOverflow() {
        ReelChanger room = new ReelChanger();
        BigInteger whole = sum(summed(room));
        Due.due("it is more than a long", whole.bitLength() > 64 ? 1 : 0, 1);
        Due.due("checksum", room.checksum(), whole.longValue());
    }

    /** "the number of reels; for each reel .., and for each of its splices ..": none, and the most. */
    static void promise23FromNoReelToTen() {
        ReelChanger room = new ReelChanger();
        sumsUp(room);
        for (int reel = 0; reel < 10; reel++) {
            room.makeReel(3000 - reel);
        }
        sumsUp(room);
        for (int frame = 6; frame >= 1; frame--) {
            room.splice(0, 10 * frame, frame);
            room.splice(9, 20 * frame, 10 - frame);
        }
        sumsUp(room);
    }

    /** "the settings 0 to 7": each at its least and its most. */
    static void promise23TheSettings() {
        for (int setting = 0; setting <= 7; setting++) {
            ReelChanger room = new ReelChanger();
            room.set(setting, LEAST[setting]);
            sumsUp(room);
            room.set(setting, MOST[setting]);
            sumsUp(room);
        }
    }

    /** "the number of reels in the program, and these": one and twelve. */
    static void promise23TheProgram() {
        sumsUp(Due.withProgram("1", 100, 200));
        sumsUp(Due.withProgram("101010101011", 100, 200));
    }

    /** "for each task from 0 to 8 that there is": with none that is worked on, and with the most. */
    static void promise23TheTasks() {
        ReelChanger room = Due.withProgram("0000", 100);
        room.set(3, 200);
        room.begin();
        sumsUp(room);
        Due.passTo(room, 80);
        sumsUp(room);
        Due.passTo(room, 160);
        Due.due("tasks in the row", room.tell(8), 3);
        sumsUp(room);
    }

    /** "and, if tell(0) is 1, forecast() of 0 and 1": up to the tick ahead of the end, and not behind it. */
    static void promise23TheForecasts() {
        ReelChanger room = Due.showing("0", 100);
        int begun = summed(room).size();
        sumsUp(room);
        room.pass(99);
        Due.due("as many", summed(room).size(), begun);
        sumsUp(room);
        room.pass(1);
        Due.due("two less", summed(room).size(), begun - 2);
        sumsUp(room);
    }

    /** The forecasts of the checksum, within 20000 ticks and beyond them: NONE goes in then. */
    static void promise23TwentyThousandTicks() {
        ReelChanger within = longShow(2120);
        Due.due("within", within.forecast(0), 20000);
        sumsUp(within);
        ReelChanger beyond = longShow(2121);
        Due.due("beyond", beyond.forecast(0), Due.NONE);
        sumsUp(beyond);
    }
}
