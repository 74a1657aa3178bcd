import java.util.Random;

/** Runs of calls from fixed seeds, that ReelChanger and RoomModel must answer alike. */
final class RandomRunsTest {
    private static final int[] WRONG = {Integer.MIN_VALUE, -1, 13, 61, 4000, Integer.MAX_VALUE};
    private static final int[] LEAST = {1, 1, 0, 1, 1, 1, 1, 0};
    private static final int[] MOST = {90, 99, 50, 200, 50, 200, 500, 20};
    private static final String[] TEXTS = {"0", "01", "(01)x3", "(0)x9", "((0)x21)x3", "0120120", "(01)x2(2)x3", "()",
        "(0)x", "(((0))1)x4", "((((0", "0)", "(0)x91", "(((1)x2)x3)x2", "(012)x4", "(012)x5"};

    private final Random random;
    private final ReelChanger room = new ReelChanger();
    private final RoomModel model = new RoomModel();
    private final StringBuilder calls = new StringBuilder();

    private RandomRunsTest(long seed) {
        random = new Random(seed);
    }

    static void promise01To23RandomRunsWithShortReels() {
        for (int seed = 0; seed < 400; seed++) {
            new RandomRunsTest(seed).run(100, 300, 150);
        }
    }

    static void promise01To23RandomRunsWithLongReels() {
        for (int seed = 5000; seed < 5040; seed++) {
            new RandomRunsTest(seed).run(100, 3000, 120);
        }
    }

    private void run(int shortest, int longest, int steps) {
        int reels = 1 + random.nextInt(4);
        for (int i = 0; i < reels; i++) {
            int length = shortest + random.nextInt(longest - shortest + 1);
            same("makeReel(" + length + ")", room.makeReel(length), model.makeReel(length));
        }
        for (int i = 0; i < 8 && room.program(0) < 0; i++) {
            write();
            same("setProgram()", room.setProgram(), model.setProgram());
        }
        same("begin()", room.begin(), model.begin());
        for (int i = 0; i < steps; i++) {
            step(random.nextInt(100));
            compare();
        }
        same("checksum()", room.checksum(), model.checksum());
    }

    private void step(int dice) {
        if (dice < 40) {
            pass();
        } else if (dice < 55) {
            spliceSomewhere();
        } else if (dice < 58) {
            int reel = pick(0, 3);
            int strength = pick(1, 10);
            same("mend(" + reel + ", " + strength + ")", room.mend(reel, strength), model.mend(reel, strength));
        } else if (dice < 66) {
            int setting = pick(0, 7);
            int value = valueOf(setting);
            same("set(" + setting + ", " + value + ")", room.set(setting, value), model.set(setting, value));
        } else if (dice < 74) {
            write();
            same("setProgram()", room.setProgram(), model.setProgram());
        } else if (dice < 80) {
            same("begin()", room.begin(), model.begin());
        } else if (dice < 84) {
            int slot = pick(0, 1);
            same("save(" + slot + ")", room.save(slot), model.save(slot));
        } else if (dice < 87) {
            int slot = pick(0, 1);
            same("restore(" + slot + ")", room.restore(slot), model.restore(slot));
        } else if (dice < 89) {
            int length = pick(100, 400);
            same("makeReel(" + length + ")", room.makeReel(length), model.makeReel(length));
        } else if (dice < 93) {
            int what = pick(0, 4);
            same("forecast(" + what + ")", room.forecast(what), model.forecast(what));
        } else if (dice < 97) {
            int setting = pick(0, 7);
            int value = valueOf(setting);
            same("darkWith(" + setting + ", " + value + ")", room.darkWith(setting, value),
                model.darkWith(setting, value));
        } else {
            same("checksum()", room.checksum(), model.checksum());
        }
    }

    private void pass() {
        int ticks = random.nextInt(8) == 0 ? pick(1, 2000) : random.nextInt(3) == 0 ? pick(1, 300) : pick(1, 60);
        same("pass(" + ticks + ")", room.pass(ticks), model.pass(ticks));
    }

    /** Often just ahead of where a projector is, so that something breaks. */
    private void spliceSomewhere() {
        int reel = pick(0, 3);
        int frame = pick(1, 300);
        int place = room.projector(room.tell(2), 1);
        int at = room.projector(room.tell(2), 2);
        if (at >= 0 && place >= 0 && random.nextInt(3) > 0) {
            reel = room.program(place);
            frame = at + pick(0, 3);
        }
        int strength = random.nextInt(3) > 0 ? 1 : pick(1, 9);
        same("splice(" + reel + ", " + frame + ", " + strength + ")", room.splice(reel, frame, strength),
            model.splice(reel, frame, strength));
    }

    private void write() {
        if (random.nextInt(3) > 0) {
            same("clearText()", room.clearText(), model.clearText());
            String text = TEXTS[random.nextInt(TEXTS.length)];
            for (int i = 0; i < text.length(); i++) {
                append(text.charAt(i));
            }
        }
        for (int i = random.nextInt(4) == 0 ? random.nextInt(8) : 0; i > 0; i--) {
            append(random.nextInt(12) == 0 ? pick(0, 127) : "012(()))xx239".charAt(random.nextInt(13)));
        }
    }

    private void append(int letter) {
        same("append(" + letter + ")", room.append(letter), model.append(letter));
        same("faultPosition()", room.faultPosition(), model.faultPosition());
        same("faultDepth()", room.faultDepth(), model.faultDepth());
    }

    private int pick(int least, int most) {
        return random.nextInt(25) == 0 ? WRONG[random.nextInt(WRONG.length)] : least + random.nextInt(most - least + 1);
    }

    private int valueOf(int setting) {
        if (setting < 0 || setting > 7 || random.nextInt(10) == 0) {
            return pick(0, 100);
        }
        int dice = random.nextInt(4);
        return dice == 0 ? LEAST[setting] : dice == 1 ? MOST[setting] : pick(LEAST[setting], MOST[setting]);
    }

    private void compare() {
        for (int i = -1; i < 11; i++) {
            same("tell(" + i + ")", room.tell(i), model.tell(i));
        }
        for (int i = -1; i < 3; i++) {
            for (int what = -1; what < 4; what++) {
                same("projector(" + i + ", " + what + ")", room.projector(i, what), model.projector(i, what));
            }
        }
        for (int i = -1; i < 9; i++) {
            for (int what = -1; what < 3; what++) {
                same("task(" + i + ", " + what + ")", room.task(i, what), model.task(i, what));
            }
        }
        for (int i = -1; i < 11; i++) {
            for (int what = -1; what < 4; what++) {
                same("reel(" + i + ", " + what + ")", room.reel(i, what), model.reel(i, what));
            }
            for (int splice = -1; splice < 7; splice++) {
                same("spliceAt", room.spliceAt(i, splice, true), model.spliceAt(i, splice, true));
                same("spliceAt", room.spliceAt(i, splice, false), model.spliceAt(i, splice, false));
            }
        }
        for (int i = -1; i < 13; i++) {
            same("program(" + i + ")", room.program(i), model.program(i));
        }
    }

    private void same(String call, long got, long want) {
        if (got != want) {
            throw new AssertionError(calls + call + " answered " + got + ", the model " + want);
        }
        if (!call.matches("(tell|projector|task|reel|spliceAt|program|fault).*")) {
            calls.append(call).append("=").append(got).append(", ");
        }
    }
}
