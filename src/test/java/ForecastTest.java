/** Promises 19 and 20: forecasts. */
final class ForecastTest {
    private static int[] forecasts(ReelChanger room) {
        int[] forecasts = new int[5];
        for (int i = 0; i < forecasts.length; i++) {
            forecasts[i] = room.forecast(i);
        }
        return forecasts;
    }

    /** A program that is shown in 18000 - 120 frames and those of its last reel. */
    private static ReelChanger longShow(int last) {
        return Due.withProgram("(0)x61", 3000, last);
    }

    static void promise19ForecastIsWhatPassBrings() {
        ReelChanger room = Due.withProgram("01201", 300, 200, 100);
        room.splice(0, 250, 2);
        room.splice(1, 20, 1);
        room.splice(1, 190, 1);
        room.set(1, 75);
        room.set(5, 200);
        room.begin();
        int[] at = {0, 1, 250, 281, 400, 700};
        int[] want = forecasts(room);
        for (int time : at) {
            Due.passTo(room, time);
            Due.dueAll("forecast at " + time, forecasts(room), want);
        }
        room.pass(2000);
        Due.due("over", room.tell(0), 0);
        Due.dueAll("told", new int[] {room.tell(1), room.tell(3), room.tell(4), room.tell(5), room.tell(6)}, want);
        for (int i = 0; i < want.length; i++) {
            Due.due("something of each: " + i, want[i] > 0 ? 1 : 0, 1);
        }
    }

    static void promise19ForecastOfAPlainShow() {
        ReelChanger room = Due.showing("012", 300, 200, 150);
        Due.dueAll("forecast", forecasts(room), 610, 0, 0, 0, 0);
        room.set(0, 50);
        Due.dueAll("with a longer lead", forecasts(room), 630, 20, 0, 0, 0);
        room.set(0, 40);
        room.set(1, 70);
        Due.dueAll("with an earlier start", forecasts(room), 590, 0, 20, 0, 0);
    }

    static void promise19ForecastCountsFromTheBeginning() {
        ReelChanger room = Due.withProgram("00", 300);
        room.splice(0, 250, 1);
        room.begin();
        Due.passTo(room, 380);
        room.mend(0, 10);
        Due.dueAll("forecast", forecasts(room), 690, 115, 0, 1, 1);
    }

    static void promise19EachForecastTellsItsOwn() {
        ReelChanger room = Due.withProgram("00", 300);
        room.splice(0, 30, 1);
        room.splice(0, 40, 1);
        room.splice(0, 250, 1);
        room.set(1, 70);
        room.begin();
        // The start behind the third repair, at frame 254, is late; the change waits for it 14 ticks.
        Due.dueAll("forecast", forecasts(room), 280 + 300 + 3 * 101 - 3 * 5 + 14, 3 * 101 + 14, 0, 1, 3);
    }

    static void promise19ForecastChangesNothing() {
        ReelChanger room = Due.withProgram("00", 100);
        room.splice(0, 30, 1);
        room.begin();
        Due.passTo(room, 10);
        int[] told = Due.told(room);
        long sum = room.checksum();
        forecasts(room);
        Due.dueAll("told", Due.told(room), told);
        Due.dueAll("splices", Due.splices(room, 0), 30, 1);
        Due.due("checksum", room.checksum(), sum);
        Due.due("text", room.clearText(), 2);
    }

    static void promise19WrongAndNotPossible() {
        ReelChanger room = Due.withProgram("0", 100);
        for (int what : new int[] {Integer.MIN_VALUE, -1, 5, Integer.MAX_VALUE}) {
            Due.due("forecast " + what, room.forecast(what), Due.BAD_INDEX);
        }
        Due.due("not begun", room.forecast(0), Due.NOT_POSSIBLE);
        room.begin();
        Due.due("begun", room.forecast(0), 100);
        for (int what : new int[] {Integer.MIN_VALUE, -1, 5, Integer.MAX_VALUE}) {
            Due.due("forecast " + what, room.forecast(what), Due.BAD_INDEX);
        }
        room.pass(100);
        for (int what = 0; what < 5; what++) {
            Due.due("over", room.forecast(what), Due.NOT_POSSIBLE);
        }
        Due.due("over, but no such number", room.forecast(5), Due.BAD_INDEX);
    }

    static void promise19ForecastHasALimit() {
        ReelChanger room = longShow(2120);
        room.begin();
        Due.dueAll("in 20000 ticks", forecasts(room), 20000, 0, 0, 0, 0);
        room = longShow(2121);
        room.begin();
        for (int what = 0; what < 5; what++) {
            Due.due("in 20001 ticks", room.forecast(what), Due.NONE);
        }
        Due.due("not that number", room.forecast(5), Due.BAD_INDEX);
        room.pass(1);
        Due.dueAll("in 20000 ticks from now on", forecasts(room), 20001, 0, 0, 0, 0);
    }

    static void promise20DarkWithOneSettingChanged() {
        ReelChanger room = Due.withProgram("012", 300, 200, 150);
        Due.due("lead 40", room.darkWith(0, 40), 0);
        Due.due("lead 41", room.darkWith(0, 41), 2);
        Due.due("lead 50", room.darkWith(0, 50), 20);
        Due.due("start 50", room.darkWith(1, 50), 20);
        Due.due("start 70", room.darkWith(1, 70), 0);
        Due.due("change 21", room.darkWith(2, 21), 2);
        Due.due("nothing else is changed", room.set(0, 40), 40);
        room.set(0, 45);
        Due.due("the other settings are as they are", room.darkWith(2, 20), 10);
        Due.due("not begun", room.tell(0), 0);
    }

    static void promise20DarkWithTheOperatorsSettings() {
        ReelChanger room = Due.withProgram("000", 100);
        // The first projector is threaded 32 + the threading's ticks behind the change, in time up to 41.
        Due.due("all in time", room.darkWith(5, 9), 0);
        Due.due("threading 200", room.darkWith(5, 200), 191);
        Due.due("threading", room.darkWith(5, 11), 2);
        Due.due("clearing", room.darkWith(3, 20), 21);
        Due.due("clearing", room.darkWith(3, 200), 201);
        Due.due("rewinding", room.darkWith(4, 50), 13);
        room.splice(0, 30, 1);
        Due.due("repair 100", room.darkWith(6, 100), 101 + 21);
        Due.due("repair 7", room.darkWith(6, 7), 8 + 21);
        room.splice(0, 34, 1);
        room.splice(0, 31, 1);
        Due.due("lost frames 0", room.darkWith(7, 0), 3 * 101 + 21);
        Due.due("lost frames 2", room.darkWith(7, 2), 3 * 101 + 24);
    }

    static void promise20ForAShowThatBeginsNow() {
        ReelChanger room = Due.withProgram("00", 100);
        room.splice(0, 30, 2);
        Due.due("broken the second time, while a clearing goes on", room.darkWith(6, 50), 52);
        room.begin();
        Due.passTo(room, 50);
        Due.due("worn in the show", room.reel(0, 2), 1);
        Due.due("broken at once", room.darkWith(6, 50), 51);
        Due.passTo(room, 110);
        Due.due("broken", room.tell(6), 1);
        Due.due("broken already", room.darkWith(6, 50), 51);
        Due.due("the show goes on", room.tell(1), 110);
        Due.due("strength as it was", room.reel(0, 2), 0);
        Due.due("setting as it was", room.set(6, 100), 100);
        room.pass(2000);
        Due.due("behind the show", room.darkWith(6, 50), 0);
        Due.due("still over", room.tell(0), 0);
    }

    static void promise20WrongAndNotPossible() {
        ReelChanger room = Due.withReels(100);
        Due.due("not possible", room.darkWith(0, 1), Due.NOT_POSSIBLE);
        int[] least = {1, 1, 0, 1, 1, 1, 1, 0};
        int[] most = {90, 99, 50, 200, 50, 200, 500, 20};
        for (int i = 0; i < 8; i++) {
            Due.due("below " + i, room.darkWith(i, least[i] - 1), Due.BAD_VALUE);
            Due.due("above " + i, room.darkWith(i, most[i] + 1), Due.BAD_VALUE);
            Due.due("least " + i, room.darkWith(i, least[i]), Due.NOT_POSSIBLE);
            Due.due("most " + i, room.darkWith(i, most[i]), Due.NOT_POSSIBLE);
        }
        for (int setting : new int[] {Integer.MIN_VALUE, -1, 8, Integer.MAX_VALUE}) {
            Due.due("setting " + setting, room.darkWith(setting, -1), Due.BAD_INDEX);
        }
        Due.write(room, "0");
        room.setProgram();
        for (int i = 0; i < 8; i++) {
            Due.due("least " + i, room.darkWith(i, least[i]), 0);
            Due.due("most " + i, room.darkWith(i, most[i]), 0);
            Due.due("above " + i, room.darkWith(i, most[i] + 1), Due.BAD_VALUE);
        }
    }

    static void promise20DarkWithHasALimit() {
        Due.due("20000 ticks", longShow(2120).darkWith(0, 40), 0);
        Due.due("20001 ticks", longShow(2121).darkWith(0, 40), Due.NONE);
        Due.due("a shorter show", longShow(2121).darkWith(0, 39), 0);
    }
}
