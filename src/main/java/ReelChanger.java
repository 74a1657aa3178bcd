/** A simulator of a projection room with two projectors and one operator. */
public final class ReelChanger {
    public static final int BAD_INDEX = -100001;
    public static final int BAD_VALUE = -100002;
    public static final int NOT_POSSIBLE = -100003;
    public static final int FULL = -100004;
    public static final int NONE = -100005;
    public static final int EMPTY = 0, READY = 1, STARTING = 2, SHOWING = 3, RUN_OUT = 4, BROKEN = 5;
    public static final int CLEAR = 0, THREAD = 1, REPAIR = 2;

    private static final int LEAST_LENGTH = 100, MOST_LENGTH = 3000;
    private static final int MOST_STRENGTH = 9;
    private static final int MOST_TICKS = 2000;
    private static final int FORECAST_TICKS = 20000;
    private static final int SLOTS = 2;

    private final Room room = new Room();
    /** Forecasts run here, so that the room itself stays as it is. */
    private final Room trial = new Room();
    private final Room[] slots = new Room[SLOTS];
    private final ProgramText text = new ProgramText();

    public ReelChanger() {
    }

    public int makeReel(int length) {
        if (!isWithin(length, LEAST_LENGTH, MOST_LENGTH)) {
            return BAD_VALUE;
        }
        return room.stock.addReel(length);
    }

    public int splice(int reel, int frame, int strength) {
        Reel chosen = room.stock.reelNumbered(reel);
        if (chosen == null) {
            return BAD_INDEX;
        }
        if (!isWithin(frame, 1, chosen.length - 1) || !isWithin(strength, 1, MOST_STRENGTH)) {
            return BAD_VALUE;
        }
        return chosen.join(frame, strength);
    }

    public int mend(int reel, int strength) {
        Reel chosen = room.stock.reelNumbered(reel);
        if (chosen == null) {
            return BAD_INDEX;
        }
        if (!isWithin(strength, 1, MOST_STRENGTH + 1)) {
            return BAD_VALUE;
        }
        return chosen.removeWeaker(strength);
    }

    public int reel(int reel, int what) {
        Reel chosen = room.stock.reelNumbered(reel);
        if (chosen == null) {
            return BAD_INDEX;
        }
        switch (what) {
            case 0: return chosen.length;
            case 1: return chosen.spliceCount;
            case 2: return chosen.leastStrength();
            default: return BAD_VALUE;
        }
    }

    public int spliceAt(int reel, int splice, boolean strength) {
        Reel chosen = room.stock.reelNumbered(reel);
        if (chosen == null || !chosen.hasSplice(splice)) {
            return BAD_INDEX;
        }
        return strength ? chosen.strengths[splice] : chosen.frames[splice];
    }

    public int set(int setting, int value) {
        int error = settingError(setting, value);
        return error != 0 ? error : room.stock.changeSetting(setting, value);
    }

    public int append(int letter) {
        if (!isWithin(letter, 0, ProgramText.MOST_LETTER)) {
            return BAD_VALUE;
        }
        return text.add(letter);
    }

    public int clearText() {
        return text.empty();
    }

    public int faultPosition() {
        return text.findFault(room.stock.reelCount);
    }

    public int faultDepth() {
        return text.findFault(room.stock.reelCount) == NONE ? NONE : text.depth;
    }

    public int setProgram() {
        if (faultPosition() != NONE || room.show.running) {
            return NOT_POSSIBLE;
        }
        int count = text.expand();
        if (count != FULL) {
            room.stock.takeProgram(text.expanded, count);
        }
        return count;
    }

    public int program(int place) {
        return room.stock.numberAtPlace(place);
    }

    public int begin() {
        if (room.stock.placeCount == 0) {
            return NOT_POSSIBLE;
        }
        room.show.open(room.stock);
        return room.stock.placeCount;
    }

    public int pass(int ticks) {
        if (!isWithin(ticks, 1, MOST_TICKS)) {
            return BAD_VALUE;
        }
        if (!room.show.running) {
            return NOT_POSSIBLE;
        }
        return room.show.run(room.stock, ticks);
    }

    public int tell(int what) {
        return room.show.count(what);
    }

    public int projector(int projector, int what) {
        if (!isWithin(projector, 0, 1)) {
            return BAD_INDEX;
        }
        Projector chosen = room.show.projectorNumbered(projector);
        switch (what) {
            case 0: return chosen.state;
            case 1: return chosen.state == EMPTY ? NONE : chosen.place;
            case 2: return chosen.isAtFrame() ? chosen.frame : NONE;
            default: return BAD_VALUE;
        }
    }

    public int task(int task, int what) {
        Operator operator = room.show.operator;
        if (!operator.hasTask(task)) {
            return BAD_INDEX;
        }
        switch (what) {
            case 0: return operator.kindOf(task);
            case 1: return operator.projectorOf(task);
            default: return BAD_VALUE;
        }
    }

    public int forecast(int what) {
        if (!isWithin(what, 0, 4)) {
            return BAD_INDEX;
        }
        if (!room.show.running) {
            return NOT_POSSIBLE;
        }
        trial.copyFrom(room);
        trial.show.run(trial.stock, FORECAST_TICKS);
        return foretold(what);
    }

    public int darkWith(int setting, int value) {
        int error = settingError(setting, value);
        if (error != 0) {
            return error;
        }
        if (room.stock.placeCount == 0) {
            return NOT_POSSIBLE;
        }
        trial.copyFrom(room);
        trial.stock.changeSetting(setting, value);
        trial.show.open(trial.stock);
        trial.show.run(trial.stock, FORECAST_TICKS);
        return foretold(1);
    }

    public int save(int slot) {
        if (!isWithin(slot, 0, SLOTS - 1)) {
            return BAD_INDEX;
        }
        Room kept = slots[slot];
        if (kept == null) {
            kept = new Room();
            slots[slot] = kept;
        }
        kept.copyFrom(room);
        return room.stock.reelCount;
    }

    public int restore(int slot) {
        if (!isWithin(slot, 0, SLOTS - 1)) {
            return BAD_INDEX;
        }
        Room kept = slots[slot];
        if (kept == null) {
            return NOT_POSSIBLE;
        }
        room.copyFrom(kept);
        return room.stock.reelCount;
    }

    public long checksum() {
        long sum = sumShow(sumStock(139));
        if (!room.show.running) {
            return sum;
        }
        trial.copyFrom(room);
        trial.show.run(trial.stock, FORECAST_TICKS);
        return mix(mix(sum, foretold(0)), foretold(1));
    }

    private long sumStock(long start) {
        Stock stock = room.stock;
        long sum = mix(start, stock.reelCount);
        for (int i = 0; i < stock.reelCount; i++) {
            sum = sumReel(sum, i);
        }
        for (int i = 0; i < Stock.SETTINGS; i++) {
            sum = mix(sum, stock.settingNumbered(i));
        }
        sum = mix(sum, stock.placeCount);
        for (int i = 0; i < stock.placeCount; i++) {
            sum = mix(sum, program(i));
        }
        return sum;
    }

    private long sumReel(long start, int number) {
        long sum = start;
        for (int what = 0; what <= 2; what++) {
            sum = mix(sum, reel(number, what));
        }
        int splices = reel(number, 1);
        for (int i = 0; i < splices; i++) {
            sum = mix(sum, spliceAt(number, i, false));
            sum = mix(sum, spliceAt(number, i, true));
        }
        return sum;
    }

    private long sumShow(long start) {
        long sum = start;
        for (int what = 0; what <= 9; what++) {
            sum = mix(sum, tell(what));
        }
        for (int number = 0; number <= 1; number++) {
            for (int what = 0; what <= 2; what++) {
                sum = mix(sum, projector(number, what));
            }
        }
        for (int number = 0; number <= 8; number++) {
            if (room.show.operator.hasTask(number)) {
                sum = mix(sum, task(number, 0));
                sum = mix(sum, task(number, 1));
            }
        }
        return sum;
    }

    /** What the show on trial has come to, or NONE if it was not over in time. */
    private int foretold(int what) {
        Show end = trial.show;
        if (end.running) {
            return NONE;
        }
        switch (what) {
            case 0: return end.time;
            case 1: return end.dark;
            case 2: return end.missed;
            case 3: return end.late;
            default: return end.breaks;
        }
    }

    private static int settingError(int setting, int value) {
        if (!isWithin(setting, 0, Stock.SETTINGS - 1)) {
            return BAD_INDEX;
        }
        return Stock.isSettingValue(setting, value) ? 0 : BAD_VALUE;
    }

    private static long mix(long sum, long value) {
        return 31 * sum + value;
    }

    private static boolean isWithin(int value, int least, int most) {
        return value >= least && value <= most;
    }

    /** A reel; its splices stand by ascending frames. */
    private static final class Reel {
        static final int MOST_SPLICES = 6;

        int length;
        int spliceCount;
        final int[] frames = new int[MOST_SPLICES];
        final int[] strengths = new int[MOST_SPLICES];

        void renew(int newLength) {
            length = newLength;
            spliceCount = 0;
        }

        void copyFrom(Reel other) {
            length = other.length;
            spliceCount = other.spliceCount;
            System.arraycopy(other.frames, 0, frames, 0, MOST_SPLICES);
            System.arraycopy(other.strengths, 0, strengths, 0, MOST_SPLICES);
        }

        boolean hasSplice(int number) {
            return number >= 0 && number < spliceCount && number < MOST_SPLICES;
        }

        /** The number of the splice at a frame, or NONE. */
        int spliceOfFrame(int frame) {
            for (int i = 0; i < spliceCount && i < MOST_SPLICES; i++) {
                if (frames[i] == frame) {
                    return i;
                }
            }
            return NONE;
        }

        int join(int frame, int strength) {
            int known = spliceOfFrame(frame);
            if (hasSplice(known)) {
                strengths[known] = strength;
                return spliceCount;
            }
            if (spliceCount >= MOST_SPLICES) {
                return FULL;
            }
            int number = spliceCount;
            while (number > 0 && frames[number - 1] > frame) {
                frames[number] = frames[number - 1];
                strengths[number] = strengths[number - 1];
                number--;
            }
            frames[number] = frame;
            strengths[number] = strength;
            spliceCount++;
            return spliceCount;
        }

        int removeWeaker(int strength) {
            int before = spliceCount;
            int kept = 0;
            for (int i = 0; i < spliceCount && i < MOST_SPLICES; i++) {
                if (strengths[i] >= strength) {
                    frames[kept] = frames[i];
                    strengths[kept] = strengths[i];
                    kept++;
                }
            }
            spliceCount = kept;
            return before - kept;
        }

        int leastStrength() {
            int least = NONE;
            for (int i = 0; i < spliceCount && i < MOST_SPLICES; i++) {
                if (least == NONE || strengths[i] < least) {
                    least = strengths[i];
                }
            }
            return least;
        }

        /** Wears the splice at a frame, and tells whether there is one and it breaks. */
        boolean breaksAt(int frame) {
            int number = spliceOfFrame(frame);
            if (!hasSplice(number)) {
                return false;
            }
            strengths[number] = Math.max(0, strengths[number] - 1);
            return strengths[number] == 0;
        }

        void repairAt(int frame) {
            int number = spliceOfFrame(frame);
            if (hasSplice(number)) {
                strengths[number] = MOST_STRENGTH;
            }
        }
    }

    /** What a show is made of: reels, settings and the program. */
    private static final class Stock {
        static final int LEAD = 0, START_DISTANCE = 1, CHANGE_DISTANCE = 2, CLEARING_TIME = 3;
        static final int REWINDING_SPEED = 4, THREADING_TIME = 5, REPAIR_TIME = 6, LOST_FRAMES = 7;
        static final int SETTINGS = 8;
        static final int MOST_REELS = 10;
        static final int MOST_PLACES = 12;
        private static final int[] LEAST_VALUES = {1, 1, 0, 1, 1, 1, 1, 0};
        private static final int[] MOST_VALUES = {90, 99, 50, 200, 50, 200, 500, 20};
        private static final int[] FIRST_VALUES = {40, 60, 20, 20, 10, 30, 100, 4};

        int reelCount;
        int placeCount;
        private final Reel[] reels = new Reel[MOST_REELS];
        private final int[] settings = new int[SETTINGS];
        private final int[] places = new int[MOST_PLACES];

        Stock() {
            for (int i = 0; i < MOST_REELS; i++) {
                reels[i] = new Reel();
            }
            System.arraycopy(FIRST_VALUES, 0, settings, 0, SETTINGS);
        }

        void copyFrom(Stock other) {
            reelCount = other.reelCount;
            for (int i = 0; i < MOST_REELS; i++) {
                Reel theirs = other.reels[i];
                if (reels[i] != null && theirs != null) {
                    reels[i].copyFrom(theirs);
                }
            }
            System.arraycopy(other.settings, 0, settings, 0, SETTINGS);
            takeProgram(other.places, other.placeCount);
        }

        int addReel(int length) {
            if (reelCount >= MOST_REELS) {
                return FULL;
            }
            int number = reelCount;
            reelCount++;
            Reel made = reelNumbered(number);
            if (made != null) {
                made.renew(length);
            }
            return number;
        }

        /** The reel of this number, or null if there is none. */
        Reel reelNumbered(int number) {
            return number >= 0 && number < reelCount && number < MOST_REELS ? reels[number] : null;
        }

        static boolean isSettingValue(int setting, int value) {
            return setting >= 0 && setting < SETTINGS
                && value >= LEAST_VALUES[setting] && value <= MOST_VALUES[setting];
        }

        int settingNumbered(int setting) {
            return setting >= 0 && setting < SETTINGS ? settings[setting] : BAD_INDEX;
        }

        /** Returns the previous value. */
        int changeSetting(int setting, int value) {
            int previous = settingNumbered(setting);
            if (isSettingValue(setting, value)) {
                settings[setting] = value;
            }
            return previous;
        }

        void takeProgram(int[] numbers, int count) {
            placeCount = Math.min(count, MOST_PLACES);
            for (int i = 0; i < placeCount && i < numbers.length; i++) {
                places[i] = numbers[i];
            }
        }

        int numberAtPlace(int place) {
            return place >= 0 && place < placeCount && place < MOST_PLACES ? places[place] : BAD_INDEX;
        }

        /** The reel at a place of the program, or null if there is none. */
        Reel reelAtPlace(int place) {
            return reelNumbered(numberAtPlace(place));
        }

        int clearingTime(int place) {
            Reel reel = reelAtPlace(place);
            int speed = settings[REWINDING_SPEED];
            if (reel == null || speed < 1) {
                return settings[CLEARING_TIME];
            }
            return settings[CLEARING_TIME] + (reel.length + speed - 1) / speed;
        }
    }

    /** A projector; its place and frame say nothing in the states that have none. */
    private static final class Projector {
        int state;
        int place;
        int frame;

        void copyFrom(Projector other) {
            state = other.state;
            place = other.place;
            frame = other.frame;
        }

        void thread(int newPlace) {
            state = READY;
            place = newPlace;
        }

        void start(int newFrame) {
            state = STARTING;
            frame = newFrame;
        }

        boolean isAtFrame() {
            return state == STARTING || state == SHOWING || state == BROKEN;
        }

        boolean isMoving() {
            return state == STARTING || state == SHOWING;
        }
    }

    /** The operator: a task that is worked on, and the row of those behind it. */
    private static final class Operator {
        /** Each projector has at most a task of each kind. */
        private static final int MOST_TASKS = 8;

        int ticksLeft;
        int rowCount;
        int workKind;
        int workProjector;
        private final int[] kinds = new int[MOST_TASKS];
        private final int[] projectors = new int[MOST_TASKS];

        void copyFrom(Operator other) {
            ticksLeft = other.ticksLeft;
            rowCount = other.rowCount;
            workKind = other.workKind;
            workProjector = other.workProjector;
            System.arraycopy(other.kinds, 0, kinds, 0, MOST_TASKS);
            System.arraycopy(other.projectors, 0, projectors, 0, MOST_TASKS);
        }

        void dropAll() {
            ticksLeft = 0;
            rowCount = 0;
        }

        boolean isWorking() {
            return ticksLeft > 0;
        }

        /** Whether there is this task: 0 is worked on, the others are in the row. */
        boolean hasTask(int task) {
            return task == 0 ? ticksLeft > 0 : task > 0 && task <= rowCount && task <= MOST_TASKS;
        }

        int kindOf(int task) {
            if (!hasTask(task)) {
                return NONE;
            }
            return task == 0 ? workKind : kinds[task - 1];
        }

        int projectorOf(int task) {
            if (!hasTask(task)) {
                return NONE;
            }
            return task == 0 ? workProjector : projectors[task - 1];
        }

        int threadTasks() {
            int count = 0;
            for (int task = 0; task <= MOST_TASKS; task++) {
                if (kindOf(task) == THREAD) {
                    count++;
                }
            }
            return count;
        }

        void addLast(int kind, int projector) {
            if (rowCount < MOST_TASKS) {
                kinds[rowCount] = kind;
                projectors[rowCount] = projector;
                rowCount++;
            }
        }

        void addFirst(int kind, int projector) {
            if (rowCount < MOST_TASKS) {
                System.arraycopy(kinds, 0, kinds, 1, rowCount);
                System.arraycopy(projectors, 0, projectors, 1, rowCount);
                kinds[0] = kind;
                projectors[0] = projector;
                rowCount++;
            }
        }

        /** Takes the first task out of the row and up. */
        void takeUp(int ticks) {
            if (rowCount > 0) {
                workKind = kinds[0];
                workProjector = projectors[0];
                ticksLeft = ticks;
                rowCount--;
                System.arraycopy(kinds, 1, kinds, 0, rowCount);
                System.arraycopy(projectors, 1, projectors, 0, rowCount);
            }
        }
    }

    /** The show that has begun last, and what has been counted in it. */
    private static final class Show {
        /** A show has begun and is not over. */
        boolean running;
        int time;
        int dark;
        int missed;
        int late;
        int breaks;
        final Operator operator = new Operator();
        private int front;
        private int threaded;
        /** The front projector has run out, whatever it has become since, until the change. */
        private boolean ranOut;
        private final Projector first = new Projector();
        private final Projector second = new Projector();

        void copyFrom(Show other) {
            running = other.running;
            time = other.time;
            dark = other.dark;
            missed = other.missed;
            late = other.late;
            breaks = other.breaks;
            operator.copyFrom(other.operator);
            front = other.front;
            threaded = other.threaded;
            ranOut = other.ranOut;
            first.copyFrom(other.first);
            second.copyFrom(other.second);
        }

        Projector projectorNumbered(int number) {
            return number == 0 ? first : second;
        }

        int count(int what) {
            switch (what) {
                case 0: return running ? 1 : 0;
                case 1: return time;
                case 2: return front;
                case 3: return dark;
                case 4: return missed;
                case 5: return late;
                case 6: return breaks;
                case 7: return threaded;
                case 8: return operator.rowCount;
                case 9: return operator.ticksLeft;
                default: return BAD_INDEX;
            }
        }

        void open(Stock stock) {
            running = true;
            time = 0;
            dark = 0;
            missed = 0;
            late = 0;
            breaks = 0;
            front = 0;
            ranOut = false;
            operator.dropAll();
            first.thread(0);
            first.state = SHOWING;
            first.frame = 0;
            second.state = EMPTY;
            threaded = 1;
            if (stock.placeCount > 1) {
                second.thread(1);
                threaded = 2;
            }
        }

        /** Lets ticks pass until the show is over; returns how many have passed. */
        int run(Stock stock, int ticks) {
            int passed = 0;
            while (passed < ticks && running) {
                work(stock);
                Reel reel = stock.reelAtPlace(frontProjector().place);
                if (reel != null) {
                    startBack(stock, reel);
                    goOn(first);
                    goOn(second);
                    wearSplice(reel);
                    runOut(stock, reel);
                }
                changeOver();
                countTick();
                passed++;
            }
            return passed;
        }

        private Projector frontProjector() {
            return projectorNumbered(front);
        }

        private Projector backProjector() {
            return projectorNumbered(1 - front);
        }

        private void work(Stock stock) {
            if (operator.isWorking()) {
                operator.ticksLeft--;
                if (!operator.isWorking()) {
                    finishTask(stock);
                }
            } else if (operator.rowCount > 0) {
                operator.takeUp(ticksOfFirstTask(stock));
            }
        }

        private int ticksOfFirstTask(Stock stock) {
            switch (operator.kindOf(1)) {
                case CLEAR:
                    return stock.clearingTime(projectorNumbered(operator.projectorOf(1)).place);
                case THREAD:
                    return stock.settingNumbered(Stock.THREADING_TIME);
                default:
                    return stock.settingNumbered(Stock.REPAIR_TIME);
            }
        }

        private void finishTask(Stock stock) {
            Projector projector = projectorNumbered(operator.workProjector);
            switch (operator.workKind) {
                case CLEAR:
                    projector.state = EMPTY;
                    break;
                case THREAD:
                    projector.thread(threaded);
                    threaded++;
                    break;
                default:
                    finishRepair(projector, stock);
                    break;
            }
        }

        private void finishRepair(Projector projector, Stock stock) {
            Reel reel = stock.reelAtPlace(projector.place);
            if (reel != null) {
                reel.repairAt(projector.frame);
                int behind = projector.frame + stock.settingNumbered(Stock.LOST_FRAMES);
                projector.frame = Math.min(behind, reel.length);
                projector.state = SHOWING;
            }
        }

        private void startBack(Stock stock, Reel shown) {
            Projector back = backProjector();
            if (back.state != READY) {
                return;
            }
            int behindMark = framesBehindMark(stock, shown);
            if (behindMark >= 0) {
                back.start(-stock.settingNumbered(Stock.LEAD));
                if (behindMark > 0) {
                    late++;
                }
            }
        }

        /** How far the front projector is behind the first mark: above 0 also if it has run out. */
        private int framesBehindMark(Stock stock, Reel shown) {
            if (ranOut) {
                return 1;
            }
            if (frontProjector().state != SHOWING) {
                return -1;
            }
            return frontProjector().frame - (shown.length - stock.settingNumbered(Stock.START_DISTANCE));
        }

        private static void goOn(Projector projector) {
            if (projector.isMoving()) {
                projector.frame++;
            }
        }

        private void wearSplice(Reel shown) {
            Projector projector = frontProjector();
            if (projector.state != SHOWING || !shown.breaksAt(projector.frame)) {
                return;
            }
            projector.state = BROKEN;
            breaks++;
            operator.addFirst(REPAIR, front);
            if (backProjector().state == STARTING) {
                backProjector().state = READY;
            }
        }

        private void runOut(Stock stock, Reel shown) {
            Projector projector = frontProjector();
            boolean isLast = projector.place == stock.placeCount - 1;
            int distance = isLast ? 0 : stock.settingNumbered(Stock.CHANGE_DISTANCE);
            if (projector.state != SHOWING || projector.frame < shown.length - distance) {
                return;
            }
            projector.state = RUN_OUT;
            ranOut = true;
            if (isLast) {
                running = false;
            } else {
                orderNextReel(stock);
            }
        }

        private void orderNextReel(Stock stock) {
            operator.addLast(CLEAR, front);
            if (stock.placeCount - threaded > operator.threadTasks()) {
                operator.addLast(THREAD, front);
            }
        }

        private void changeOver() {
            Projector back = backProjector();
            if (ranOut && running && back.state == STARTING && back.frame >= 0) {
                back.state = SHOWING;
                missed += back.frame;
                front = 1 - front;
                ranOut = false;
            }
        }

        private void countTick() {
            time++;
            if (running && frontProjector().state != SHOWING) {
                dark++;
            }
        }
    }

    /** All that a slot keeps: what a show is made of, and the show. */
    private static final class Room {
        final Stock stock = new Stock();
        final Show show = new Show();

        void copyFrom(Room other) {
            stock.copyFrom(other.stock);
            show.copyFrom(other.show);
        }
    }

    /** The text that tells a program. */
    private static final class ProgramText {
        static final int MOST_LETTER = 127;
        private static final int MOST_LETTERS = 60;
        private static final int MOST_DEPTH = 3;
        /** What stands ahead of a letter: nothing in its group yet, a whole item, a group without a sign, a sign. */
        private static final int AT_START = 0, BEHIND_ITEM = 1, BEHIND_GROUP = 2, BEHIND_SIGN = 3;

        /** How many parentheses are open where findFault() ended. */
        int depth;
        /** The reels of the program that expand() has read last. */
        final int[] expanded = new int[Stock.MOST_PLACES];
        private int length;
        private int standing;
        private final int[] letters = new int[MOST_LETTERS];
        private final int[] groupStarts = new int[MOST_DEPTH];

        int add(int letter) {
            if (length >= MOST_LETTERS) {
                return FULL;
            }
            letters[length] = letter;
            length++;
            return length;
        }

        int empty() {
            int before = length;
            length = 0;
            return before;
        }

        /** The fault position of the text, or NONE; its depth stands in depth then. */
        int findFault(int reelCount) {
            depth = 0;
            standing = AT_START;
            for (int i = 0; i < length && i < MOST_LETTERS; i++) {
                int next = standingBehind(letters[i], reelCount);
                if (next == NONE) {
                    return i;
                }
                standing = next;
                depth += depthChange(letters[i]);
            }
            boolean isWhole = depth == 0 && (standing == BEHIND_ITEM || standing == BEHIND_GROUP);
            return isWhole ? NONE : length;
        }

        /** What stands behind a letter, or NONE if it can't stand here. */
        private int standingBehind(int letter, int reelCount) {
            if (standing == BEHIND_SIGN) {
                return letter >= '2' && letter <= '9' ? BEHIND_ITEM : NONE;
            }
            if (letter >= '0' && letter <= '9') {
                return letter - '0' < reelCount ? BEHIND_ITEM : NONE;
            }
            switch (letter) {
                case '(': return depth < MOST_DEPTH ? AT_START : NONE;
                case ')': return depth > 0 && standing != AT_START ? BEHIND_GROUP : NONE;
                case 'x': return standing == BEHIND_GROUP ? BEHIND_SIGN : NONE;
                default: return NONE;
            }
        }

        private static int depthChange(int letter) {
            return letter == '(' ? 1 : letter == ')' ? -1 : 0;
        }

        /** Reads a text without a fault into expanded; returns the number of reels, or FULL. */
        int expand() {
            int count = 0;
            int open = 0;
            int groupStart = 0;
            boolean isTimes = false;
            for (int i = 0; i < length && i < MOST_LETTERS && count != FULL; i++) {
                int letter = letters[i];
                if (letter == '(') {
                    if (open < MOST_DEPTH) {
                        groupStarts[open] = count;
                        open++;
                    }
                } else if (letter == ')') {
                    if (open > 0) {
                        open--;
                        groupStart = groupStarts[open];
                    }
                } else if (letter == 'x') {
                    isTimes = true;
                } else if (isTimes) {
                    count = repeatGroup(groupStart, count, letter - '0');
                    isTimes = false;
                } else {
                    count = addReel(letter - '0', count);
                }
            }
            return count;
        }

        private int addReel(int number, int count) {
            if (count < 0 || count >= expanded.length) {
                return FULL;
            }
            expanded[count] = number;
            return count + 1;
        }

        /** Adds a group once less than it is shown, as it has been read once. */
        private int repeatGroup(int start, int end, int times) {
            int count = end;
            int copiedTo = start + (end - start) * (times - 1);
            for (int i = Math.max(0, start); i < copiedTo && i < expanded.length && count != FULL; i++) {
                count = addReel(expanded[i], count);
            }
            return count;
        }
    }
}
