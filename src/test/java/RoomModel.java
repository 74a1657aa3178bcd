import java.util.ArrayDeque;
import java.util.ArrayList;
import java.util.Deque;
import java.util.List;
import java.util.TreeMap;

/** A second reading of the document, kept apart from ReelChanger, for RandomRunsTest to hold against it. */
final class RoomModel {
    private static final int[][] RANGES = {{1, 90, 40}, {1, 99, 60}, {0, 50, 20}, {1, 200, 20}, {1, 50, 10},
        {1, 200, 30}, {1, 500, 100}, {0, 20, 4}};
    private static final int BAD_INDEX = -100001, BAD_VALUE = -100002, NOT_POSSIBLE = -100003, FULL = -100004;
    private static final int NONE = -100005;

    /** A task: its kind, its projector, and the ticks left when it is worked on. */
    private record Task(int kind, int projector, int left) {
    }

    private static final class State {
        final List<Integer> lengths = new ArrayList<>();
        final List<TreeMap<Integer, Integer>> splices = new ArrayList<>();
        int[] settings = new int[8];
        List<Integer> program = new ArrayList<>();
        boolean begun;
        boolean over;
        int time, dark, missed, late, breaks, on, front;
        boolean out;
        int[] states = {0, 0};
        int[] places = {0, 0};
        int[] frames = {0, 0};
        Task work;
        Deque<Task> row = new ArrayDeque<>();

        State copy() {
            State copy = new State();
            copy.lengths.addAll(lengths);
            for (TreeMap<Integer, Integer> one : splices) {
                copy.splices.add(new TreeMap<>(one));
            }
            copy.settings = settings.clone();
            copy.program = new ArrayList<>(program);
            copy.begun = begun;
            copy.over = over;
            copy.time = time;
            copy.dark = dark;
            copy.missed = missed;
            copy.late = late;
            copy.breaks = breaks;
            copy.on = on;
            copy.front = front;
            copy.out = out;
            copy.states = states.clone();
            copy.places = places.clone();
            copy.frames = frames.clone();
            copy.work = work;
            copy.row = new ArrayDeque<>(row);
            return copy;
        }

        boolean goesOn() {
            return begun && !over;
        }

        int lengthOn(int projector) {
            return lengths.get(program.get(places[projector]));
        }

        TreeMap<Integer, Integer> splicesOn(int projector) {
            return splices.get(program.get(places[projector]));
        }

        void begin() {
            begun = true;
            over = false;
            time = dark = missed = late = breaks = front = 0;
            out = false;
            work = null;
            row.clear();
            states[0] = 3;
            places[0] = 0;
            frames[0] = 0;
            on = Math.min(2, program.size());
            states[1] = program.size() >= 2 ? 1 : 0;
            places[1] = 1;
        }

        void tick() {
            stepOperator();
            int back = 1 - front;
            if (states[back] == 1) {
                int mark = lengthOn(front) - settings[1];
                boolean atMark = !out && states[front] == 3 && frames[front] >= mark;
                if (out || atMark) {
                    states[back] = 2;
                    frames[back] = -settings[0];
                    if (out || frames[front] > mark) {
                        late++;
                    }
                }
            }
            for (int i = 0; i < 2; i++) {
                if (states[i] == 2 || states[i] == 3) {
                    frames[i]++;
                }
            }
            stepSplice(back);
            stepEnd();
            if (out && !over && states[back] == 2 && frames[back] >= 0) {
                states[back] = 3;
                missed += frames[back];
                front = back;
                out = false;
            }
            time++;
            if (!over && states[front] != 3) {
                dark++;
            }
        }

        private void stepOperator() {
            if (work == null) {
                if (!row.isEmpty()) {
                    Task next = row.removeFirst();
                    int takes = next.kind == 1 ? settings[5] : next.kind == 2 ? settings[6]
                        : settings[3] + (int) Math.ceil(lengthOn(next.projector) / (double) settings[4]);
                    work = new Task(next.kind, next.projector, takes);
                }
                return;
            }
            work = new Task(work.kind, work.projector, work.left - 1);
            if (work.left > 0) {
                return;
            }
            int at = work.projector;
            if (work.kind == 0) {
                states[at] = 0;
            } else if (work.kind == 1) {
                states[at] = 1;
                places[at] = on++;
            } else {
                splicesOn(at).computeIfPresent(frames[at], (frame, strength) -> 9);
                frames[at] = Math.min(lengthOn(at), frames[at] + settings[7]);
                states[at] = 3;
            }
            work = null;
        }

        private void stepSplice(int back) {
            if (states[front] != 3 || !splicesOn(front).containsKey(frames[front])) {
                return;
            }
            int strength = Math.max(0, splicesOn(front).get(frames[front]) - 1);
            splicesOn(front).put(frames[front], strength);
            if (strength == 0) {
                states[front] = 5;
                breaks++;
                row.addFirst(new Task(2, front, 0));
                if (states[back] == 2) {
                    states[back] = 1;
                }
            }
        }

        private void stepEnd() {
            if (states[front] != 3) {
                return;
            }
            if (places[front] == program.size() - 1) {
                if (frames[front] >= lengthOn(front)) {
                    states[front] = 4;
                    over = true;
                }
            } else if (frames[front] >= lengthOn(front) - settings[2]) {
                states[front] = 4;
                out = true;
                row.addLast(new Task(0, front, 0));
                long threads = row.stream().filter(task -> task.kind == 1).count();
                if (work != null && work.kind == 1) {
                    threads++;
                }
                if (program.size() - on > threads) {
                    row.addLast(new Task(1, front, 0));
                }
            }
        }

        boolean endsWithin(int ticks) {
            for (int i = 0; i < ticks && goesOn(); i++) {
                tick();
            }
            return over;
        }
    }

    private State state = new State();
    private final State[] slots = new State[2];
    private String text = "";

    RoomModel() {
        for (int i = 0; i < 8; i++) {
            state.settings[i] = RANGES[i][2];
        }
    }

    private boolean isReel(int reel) {
        return reel >= 0 && reel < state.lengths.size();
    }

    int makeReel(int length) {
        if (length < 100 || length > 3000) {
            return BAD_VALUE;
        }
        if (state.lengths.size() == 10) {
            return FULL;
        }
        state.lengths.add(length);
        state.splices.add(new TreeMap<>());
        return state.lengths.size() - 1;
    }

    int splice(int reel, int frame, int strength) {
        if (!isReel(reel)) {
            return BAD_INDEX;
        }
        if (frame < 1 || frame > state.lengths.get(reel) - 1 || strength < 1 || strength > 9) {
            return BAD_VALUE;
        }
        TreeMap<Integer, Integer> of = state.splices.get(reel);
        if (of.size() == 6 && !of.containsKey(frame)) {
            return FULL;
        }
        of.put(frame, strength);
        return of.size();
    }

    int mend(int reel, int strength) {
        if (!isReel(reel)) {
            return BAD_INDEX;
        }
        if (strength < 1 || strength > 10) {
            return BAD_VALUE;
        }
        int before = state.splices.get(reel).size();
        state.splices.get(reel).values().removeIf(one -> one < strength);
        return before - state.splices.get(reel).size();
    }

    int reel(int reel, int what) {
        if (!isReel(reel)) {
            return BAD_INDEX;
        }
        TreeMap<Integer, Integer> of = state.splices.get(reel);
        return what == 0 ? state.lengths.get(reel) : what == 1 ? of.size()
            : what == 2 ? of.values().stream().mapToInt(one -> one).min().orElse(NONE) : BAD_VALUE;
    }

    int spliceAt(int reel, int splice, boolean strength) {
        if (!isReel(reel) || splice < 0 || splice >= state.splices.get(reel).size()) {
            return BAD_INDEX;
        }
        int frame = new ArrayList<>(state.splices.get(reel).keySet()).get(splice);
        return strength ? state.splices.get(reel).get(frame) : frame;
    }

    int set(int setting, int value) {
        if (setting < 0 || setting > 7) {
            return BAD_INDEX;
        }
        if (value < RANGES[setting][0] || value > RANGES[setting][1]) {
            return BAD_VALUE;
        }
        int before = state.settings[setting];
        state.settings[setting] = value;
        return before;
    }

    int append(int letter) {
        if (letter < 0 || letter > 127) {
            return BAD_VALUE;
        }
        if (text.length() == 60) {
            return FULL;
        }
        text += (char) letter;
        return text.length();
    }

    int clearText() {
        int before = text.length();
        text = "";
        return before;
    }

    private int at;
    private boolean fault;

    private char next() {
        return at < text.length() ? text.charAt(at) : '\uffff';
    }

    private List<Integer> items(int depth) {
        List<Integer> items = new ArrayList<>();
        while (!fault) {
            if (next() >= '0' && next() <= '9' && next() - '0' < state.lengths.size()) {
                items.add(next() - '0');
                at++;
            } else if (next() == '(' && depth < 3) {
                at++;
                items.addAll(group(depth + 1));
            } else {
                fault = items.isEmpty();
                break;
            }
        }
        return items;
    }

    private List<Integer> group(int depth) {
        List<Integer> once = items(depth);
        if (fault || next() != ')') {
            fault = true;
            return once;
        }
        at++;
        if (next() != 'x') {
            return once;
        }
        at++;
        if (next() < '2' || next() > '9') {
            fault = true;
            return once;
        }
        List<Integer> all = new ArrayList<>();
        for (int i = next() - '0'; i > 0; i--) {
            all.addAll(once);
        }
        at++;
        return all;
    }

    private List<Integer> read() {
        at = 0;
        fault = false;
        List<Integer> read = items(0);
        fault |= at < text.length();
        return read;
    }

    int faultPosition() {
        read();
        return fault ? at : NONE;
    }

    int faultDepth() {
        read();
        String ahead = text.substring(0, at);
        return fault ? ahead.replaceAll("[^(]", "").length() - ahead.replaceAll("[^)]", "").length() : NONE;
    }

    int setProgram() {
        List<Integer> read = read();
        if (fault || state.goesOn()) {
            return NOT_POSSIBLE;
        }
        if (read.size() > 12) {
            return FULL;
        }
        state.program = read;
        return read.size();
    }

    int program(int place) {
        return place < 0 || place >= state.program.size() ? BAD_INDEX : state.program.get(place);
    }

    int begin() {
        if (state.program.isEmpty()) {
            return NOT_POSSIBLE;
        }
        state.begin();
        return state.program.size();
    }

    int pass(int ticks) {
        if (ticks < 1 || ticks > 2000) {
            return BAD_VALUE;
        }
        if (!state.goesOn()) {
            return NOT_POSSIBLE;
        }
        int before = state.time;
        state.endsWithin(ticks);
        return state.time - before;
    }

    int tell(int what) {
        if (what < 0 || what > 9) {
            return BAD_INDEX;
        }
        return new int[] {state.goesOn() ? 1 : 0, state.time, state.front, state.dark, state.missed, state.late,
            state.breaks, state.on, state.row.size(), state.work == null ? 0 : state.work.left}[what];
    }

    int projector(int projector, int what) {
        if (projector < 0 || projector > 1) {
            return BAD_INDEX;
        }
        if (what < 0 || what > 2) {
            return BAD_VALUE;
        }
        int is = state.states[projector];
        return what == 0 ? is : what == 1 ? (is == 0 ? NONE : state.places[projector])
            : is == 0 || is == 1 || is == 4 ? NONE : state.frames[projector];
    }

    int task(int task, int what) {
        List<Task> row = new ArrayList<>(state.row);
        Task one = task == 0 ? state.work : task > 0 && task <= row.size() ? row.get(task - 1) : null;
        if (one == null) {
            return BAD_INDEX;
        }
        return what == 0 ? one.kind : what == 1 ? one.projector : BAD_VALUE;
    }

    int forecast(int what) {
        if (what < 0 || what > 4) {
            return BAD_INDEX;
        }
        if (!state.goesOn()) {
            return NOT_POSSIBLE;
        }
        State ahead = state.copy();
        return !ahead.endsWithin(20000) ? NONE
            : new int[] {ahead.time, ahead.dark, ahead.missed, ahead.late, ahead.breaks}[what];
    }

    int darkWith(int setting, int value) {
        if (setting < 0 || setting > 7) {
            return BAD_INDEX;
        }
        if (value < RANGES[setting][0] || value > RANGES[setting][1]) {
            return BAD_VALUE;
        }
        if (state.program.isEmpty()) {
            return NOT_POSSIBLE;
        }
        State ahead = state.copy();
        ahead.settings[setting] = value;
        ahead.begin();
        return ahead.endsWithin(20000) ? ahead.dark : NONE;
    }

    int save(int slot) {
        if (slot < 0 || slot > 1) {
            return BAD_INDEX;
        }
        slots[slot] = state.copy();
        return state.lengths.size();
    }

    int restore(int slot) {
        if (slot < 0 || slot > 1) {
            return BAD_INDEX;
        }
        if (slots[slot] == null) {
            return NOT_POSSIBLE;
        }
        state = slots[slot].copy();
        return state.lengths.size();
    }

    long checksum() {
        List<Integer> values = new ArrayList<>();
        values.add(state.lengths.size());
        for (int reel = 0; reel < state.lengths.size(); reel++) {
            values.add(reel(reel, 0));
            values.add(reel(reel, 1));
            values.add(reel(reel, 2));
            state.splices.get(reel).forEach((frame, strength) -> {
                values.add(frame);
                values.add(strength);
            });
        }
        for (int setting : state.settings) {
            values.add(setting);
        }
        values.add(state.program.size());
        values.addAll(state.program);
        for (int what = 0; what < 10; what++) {
            values.add(tell(what));
        }
        for (int i = 0; i < 6; i++) {
            values.add(projector(i / 3, i % 3));
        }
        for (int task = 0; task < 9; task++) {
            if (task(task, 0) != BAD_INDEX) {
                values.add(task(task, 0));
                values.add(task(task, 1));
            }
        }
        if (state.goesOn()) {
            values.add(forecast(0));
            values.add(forecast(1));
        }
        long h = 139;
        for (int value : values) {
            h = 31 * h + value;
        }
        return h;
    }
}
