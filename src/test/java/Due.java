/** What the tests share: a check, and rooms made by a row of calls. */
final class Due {
    static final int BAD_INDEX = ReelChanger.BAD_INDEX, BAD_VALUE = ReelChanger.BAD_VALUE;
    static final int NOT_POSSIBLE = ReelChanger.NOT_POSSIBLE, FULL = ReelChanger.FULL, NONE = ReelChanger.NONE;
    static final int[] FAR = {Integer.MIN_VALUE, -1000, -1, 13, 1000, Integer.MAX_VALUE};

    private Due() {
    }

    static void due(String call, long got, long want) {
        if (got != want) {
            throw new AssertionError(call + " answered " + got + ", due is " + want);
        }
    }

    static void dueAll(String call, int[] got, int... want) {
        due(call + ": how many", got.length, want.length);
        for (int i = 0; i < want.length; i++) {
            due(call + ": number " + i, got[i], want[i]);
        }
    }

    static ReelChanger withReels(int... lengths) {
        ReelChanger room = new ReelChanger();
        for (int i = 0; i < lengths.length; i++) {
            due("makeReel(" + lengths[i] + ")", room.makeReel(lengths[i]), i);
        }
        return room;
    }

    static void write(ReelChanger room, String text) {
        room.clearText();
        for (int i = 0; i < text.length(); i++) {
            due("append", room.append(text.charAt(i)), i + 1);
        }
    }

    /** A room with these reels, and the program of the text. */
    static ReelChanger withProgram(String text, int... lengths) {
        ReelChanger room = withReels(lengths);
        write(room, text);
        if (room.setProgram() < 1) {
            throw new AssertionError("no program: " + text);
        }
        return room;
    }

    /** A room in which the show of the text has begun. */
    static ReelChanger showing(String text, int... lengths) {
        ReelChanger room = withProgram(text, lengths);
        if (room.begin() < 1) {
            throw new AssertionError("no show: " + text);
        }
        return room;
    }

    /** Lets ticks pass up to a time. */
    static void passTo(ReelChanger room, int time) {
        while (room.tell(1) < time) {
            int ticks = Math.min(2000, time - room.tell(1));
            due("pass(" + ticks + ")", room.pass(ticks), ticks);
        }
    }

    static int[] told(ReelChanger room) {
        int[] told = new int[10];
        for (int i = 0; i < told.length; i++) {
            told[i] = room.tell(i);
        }
        return told;
    }

    static int[] onProjector(ReelChanger room, int projector) {
        return new int[] {room.projector(projector, 0), room.projector(projector, 1), room.projector(projector, 2)};
    }

    static int[] splices(ReelChanger room, int reel) {
        int count = room.reel(reel, 1);
        int[] splices = new int[2 * count];
        for (int i = 0; i < count; i++) {
            splices[2 * i] = room.spliceAt(reel, i, false);
            splices[2 * i + 1] = room.spliceAt(reel, i, true);
        }
        return splices;
    }

    static int[] program(ReelChanger room) {
        int count = 0;
        while (room.program(count) != BAD_INDEX) {
            count++;
        }
        int[] program = new int[count];
        for (int i = 0; i < count; i++) {
            program[i] = room.program(i);
        }
        return program;
    }
}
