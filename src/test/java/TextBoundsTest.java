/** Promises 8 to 13 at their bounds: a test for each sentence that names one, just within it and just beyond it. */
final class TextBoundsTest {
    private static final int MOST = 60;

    private static ReelChanger withReels(int count) {
        ReelChanger room = new ReelChanger();
        for (int i = 0; i < count; i++) {
            room.makeReel(100);
        }
        return room;
    }

    /** A room with two reels and this text. */
    private static ReelChanger written(String text) {
        ReelChanger room = withReels(2);
        Due.write(room, text);
        return room;
    }

    private static void fault(String text, int position, int depth) {
        ReelChanger room = written(text);
        Due.due("faultPosition of " + text, room.faultPosition(), position);
        Due.due("faultDepth of " + text, room.faultDepth(), depth);
        Due.due("setProgram of " + text, room.setProgram(), Due.NOT_POSSIBLE);
    }

    private static void noFault(String text) {
        ReelChanger room = written(text);
        Due.due("faultPosition of " + text, room.faultPosition(), Due.NONE);
        Due.due("faultDepth of " + text, room.faultDepth(), Due.NONE);
    }

    private static void sets(String text, int answer) {
        Due.due("setProgram of " + text, written(text).setProgram(), answer);
    }

    /** "letter: 0 to 127" */
    static void promise08TheLetters() {
        ReelChanger room = new ReelChanger();
        Due.due("-1", room.append(-1), Due.BAD_VALUE);
        Due.due("0", room.append(0), 1);
        Due.due("1", room.append(1), 2);
        Due.due("126", room.append(126), 3);
        Due.due("127", room.append(127), 4);
        Due.due("128", room.append(128), Due.BAD_VALUE);
        Due.due("far below", room.append(Integer.MIN_VALUE), Due.BAD_VALUE);
        Due.due("far above", room.append(Integer.MAX_VALUE), Due.BAD_VALUE);
        // A digit behind its lower eight bits is no digit.
        Due.due("256 + '0'", room.append(256 + '0'), Due.BAD_VALUE);
        Due.due("length", room.clearText(), 4);
    }

    /** "The text has at most 60 bytes": "FULL if it has 60 bytes" */
    static void promise08TheSixtiethByteIsTheLast() {
        ReelChanger room = withReels(1);
        Due.write(room, "0".repeat(MOST - 2));
        Due.due("the 59th", room.append('0'), 59);
        Due.due("the 60th", room.append('0'), 60);
        Due.due("the 61st", room.append('x'), Due.FULL);
        Due.due("the 61st again", room.append('0'), Due.FULL);
        Due.due("no fault", room.faultPosition(), Due.NONE);
        Due.due("length", room.clearText(), 60);
        Due.due("the first", room.append('0'), 1);
    }

    /** "BAD_VALUE; FULL if it has 60 bytes", in this order. */
    static void promise08AWrongLetterIsToldAheadOfFull() {
        ReelChanger room = written("0".repeat(MOST));
        Due.due("-1", room.append(-1), Due.BAD_VALUE);
        Due.due("128", room.append(128), Due.BAD_VALUE);
        Due.due("0", room.append(0), Due.FULL);
        Due.due("127", room.append(127), Due.FULL);
    }

    /** "Returns the length that it had": of an empty text, of one byte, and of a full one. */
    static void promise09TheLengths() {
        ReelChanger room = new ReelChanger();
        Due.due("empty", room.clearText(), 0);
        Due.due("still empty", room.clearText(), 0);
        Due.write(room, "0");
        Due.due("one", room.clearText(), 1);
        Due.write(room, "0".repeat(59));
        Due.due("59", room.clearText(), 59);
        Due.write(room, "0".repeat(60));
        Due.due("60", room.clearText(), 60);
        Due.due("empty again", room.clearText(), 0);
        Due.due("its fault", room.faultPosition(), 0);
    }

    /** "an empty text has its fault at 0" */
    static void promise10And11TheEmptyText() {
        fault("", 0, 0);
        noFault("0");
        ReelChanger room = written("(");
        room.clearText();
        Due.due("cleared", room.faultPosition(), 0);
        Due.due("cleared", room.faultDepth(), 0);
    }

    /** "a reel that there is not": the digit of the last reel, and the next one. */
    static void promise10And11TheLastReelAndTheNext() {
        for (int reels = 0; reels <= 10; reels++) {
            ReelChanger room = withReels(reels);
            if (reels > 0) {
                Due.write(room, "" + (reels - 1));
                Due.due("the last of " + reels, room.faultPosition(), Due.NONE);
                Due.due("the last of " + reels, room.faultDepth(), Due.NONE);
            }
            if (reels < 10) {
                Due.write(room, "" + reels);
                Due.due("the next of " + reels, room.faultPosition(), 0);
                Due.write(room, "(" + reels);
                Due.due("the next in a group", room.faultPosition(), 1);
                Due.due("the next in a group", room.faultDepth(), 1);
            }
        }
    }

    /** "the digits of reels": from 0 to 9, and the bytes beside them. */
    static void promise10And11TheDigits() {
        ReelChanger room = withReels(10);
        Due.write(room, "0123456789");
        Due.due("digits", room.faultPosition(), Due.NONE);
        Due.write(room, "9/");
        Due.due("ahead of 0", room.faultPosition(), 1);
        Due.write(room, "9:");
        Due.due("behind 9", room.faultPosition(), 1);
    }

    /** Any other byte is a fault, also those at the ends of the range. */
    static void promise10And11EveryByte() {
        for (int letter = 0; letter <= 127; letter++) {
            String text = "0" + (char) letter;
            if (letter == '0' || letter == '1') {
                noFault(text);
            } else if (letter == '(') {
                fault(text, 2, 1);
            } else {
                fault(text, 1, 0);
            }
        }
    }

    /** "groups, in parentheses, of at least one digit or group" */
    static void promise10And11AnEmptyGroup() {
        fault("()", 1, 1);
        noFault("(0)");
        fault("(())", 2, 2);
        noFault("((0))");
        fault("(()0)", 2, 2);
        fault("(0())", 3, 2);
        fault("((()))", 3, 3);
        noFault("(((0)))");
        fault("0()", 2, 1);
    }

    /** "perhaps followed by a sign x and a digit from 2 to 9" */
    static void promise10And11TheTimes() {
        fault("(0)x0", 4, 0);
        fault("(0)x1", 4, 0);
        for (char times = '2'; times <= '9'; times++) {
            noFault("(0)x" + times);
            noFault("(0(1)x" + times + ")");
        }
        fault("(0)x:", 4, 0);
        fault("(0)x/", 4, 0);
        fault("((0)x1)", 5, 1);
        fault("(((0)x1))", 6, 2);
    }

    /** The digit behind a sign need not be one of a reel, and the one behind it must be one. */
    static void promise10And11BehindTheTimes() {
        noFault("(0)x9");
        noFault("(0)x91");
        fault("(0)x92", 5, 0);
        noFault("(0)x9(0)x9");
        fault("(0)x9x9", 5, 0);
        fault("(0)x9)", 5, 0);
        noFault("((0)x9)x9");
    }

    /** "each group (not a digit) perhaps followed by a sign" */
    static void promise10And11TheSignBehindAGroupOnly() {
        fault("x2", 0, 0);
        fault("0x2", 1, 0);
        fault("(x2)", 1, 1);
        fault("(0x2)", 2, 1);
        noFault("(0)x2");
        fault("(0)0x2", 4, 0);
        fault("(0)xx2", 4, 0);
        fault("(0)X2", 3, 0);
    }

    /** "Groups may be nested up to 3 deep": "a parenthesis that opens within three others" is a fault. */
    static void promise10And11ThreeDeep() {
        noFault("((0))");
        noFault("(((0)))");
        fault("((((0))))", 3, 3);
        noFault("(((0)(1)))");
        noFault("(((0))((1)))");
        noFault("(((0)))(((1)))");
        fault("(((0)(1)(", 9, 3);
        fault("(((0(", 4, 3);
        fault("(((0)((", 6, 3);
        fault("((0)(((", 6, 3);
    }

    /** A parenthesis that closes without one that is open. */
    static void promise10And11ClosedOnceTooOften() {
        noFault("(0)");
        fault(")", 0, 0);
        fault("0)", 1, 0);
        fault("(0))", 3, 0);
        noFault("((0)1)");
        fault("((0)1))", 6, 0);
    }

    /** "or its length if it ends too early" */
    static void promise10And11EndsTooEarly() {
        fault("(", 1, 1);
        fault("((", 2, 2);
        fault("(((", 3, 3);
        fault("(0", 2, 1);
        fault("((0)", 4, 1);
        fault("(((0))", 6, 1);
        fault("(0)x", 4, 0);
        fault("((0)x", 5, 1);
        fault("(((0)x", 6, 2);
        fault("(((0)x2", 7, 2);
    }

    /** A full text: with no fault, with one at its last byte, and one that ends too early. */
    static void promise10And11TheSixtiethByte() {
        String zeros = "0".repeat(MOST - 2);
        noFault(zeros + "01");
        fault(zeros + "02", 59, 0);
        fault(zeros + "0(", 60, 1);
        fault(zeros + "((", 60, 2);
        fault("(" + zeros + "0", 60, 1);
        noFault("(" + zeros + ")");
        fault(zeros.substring(2) + "(0)x", 60, 0);
        noFault(zeros.substring(3) + "(0)x2");
        fault(zeros.substring(3) + "(0)x1", 59, 0);
    }

    /** "The fault depth is the number of parentheses that are open ahead of it": those that are closed don't count. */
    static void promise11TheDepths() {
        fault("z", 0, 0);
        fault("(z", 1, 1);
        fault("((z", 2, 2);
        fault("(((z", 3, 3);
        fault("(((0)z", 5, 2);
        fault("(((0))z", 6, 1);
        fault("(((0)))z", 7, 0);
        fault("(0)(1)(z", 7, 1);
    }

    /** "at most 12 reels": "FULL if it would have more than 12" */
    static void promise12TwelveReelsByDigits() {
        sets("00000000000", 11);
        sets("000000000000", 12);
        sets("0000000000000", Due.FULL);
        sets("0".repeat(60), Due.FULL);
    }

    /** The same with groups: the last reel may come by a digit, or by a group. */
    static void promise12TwelveReelsByGroups() {
        sets("(0)x9(0)x2", 11);
        sets("(0)x9(0)x3", 12);
        sets("(0)x9(0)x4", Due.FULL);
        sets("(0)x9000", 12);
        sets("(0)x90000", Due.FULL);
        sets("0(0)x90(0)", 12);
        sets("(01)x6", 12);
        sets("(01)x7", Due.FULL);
        sets("((0)x2)x6", 12);
        sets("((0)x2)x7", Due.FULL);
        sets("(((0)x2)x2)x3", 12);
        sets("(((0)x2)x2)x4", Due.FULL);
        sets("(000000000000)", 12);
        sets("(000000000000)x2", Due.FULL);
        sets("(0000000000000)", Due.FULL);
    }

    /** The most that a text can tell is FULL, too. */
    static void promise12TheMostReels() {
        sets("(((" + "0".repeat(48) + ")x9)x9)x9", Due.FULL);
        sets("(((0)x9)x9)x9(((0)x9)x9)x9(((0)x9)x9)x9(((0)x9)x9)x9", Due.FULL);
    }

    /** "it is shown so many times (once without)": from 2 to 9 times. */
    static void promise12TheTimes() {
        sets("(0)", 1);
        for (int times = 2; times <= 9; times++) {
            sets("(0)x" + times, times);
            sets("(0)x" + times + "01", times + 2);
        }
        sets("((0))", 1);
        sets("(((0)))", 1);
    }

    /** "Groups may be nested up to 3 deep": each is shown so many times from where it begins. */
    static void promise12ThreeDeepEachOfItsOwn() {
        ReelChanger room = written("0(0(0(1)x2)x2)");
        Due.due("setProgram", room.setProgram(), 8);
        Due.dueAll("program", Due.program(room), 0, 0, 0, 1, 1, 0, 1, 1);
        Due.write(room, "(0(1(1)x2)x2)1");
        Due.due("setProgram", room.setProgram(), 8);
        Due.dueAll("program", Due.program(room), 0, 1, 1, 1, 1, 1, 1, 1);
        Due.write(room, "1(0(1)x2(0)x3)x2");
        Due.due("setProgram", room.setProgram(), Due.FULL);
        Due.write(room, "(1(0)x2(1)x3)x2");
        Due.due("setProgram", room.setProgram(), 12);
        Due.dueAll("program", Due.program(room), 1, 0, 0, 1, 1, 1, 1, 0, 0, 1, 1, 1);
    }

    /** "NOT_POSSIBLE if the text has a fault": ahead of FULL. */
    static void promise12AFaultIsToldAheadOfFull() {
        sets("", Due.NOT_POSSIBLE);
        sets("0000000000000)", Due.NOT_POSSIBLE);
        sets("(0)x9(0)x9x", Due.NOT_POSSIBLE);
        sets("(0)x9(0)x9", Due.FULL);
    }

    /** "or a show has begun and is not over": up to its last tick; ahead of FULL. */
    static void promise12UpToTheLastTick() {
        ReelChanger room = Due.withProgram("0", 100, 100);
        Due.due("not begun", room.setProgram(), 1);
        room.begin();
        Due.due("at its begin", room.setProgram(), Due.NOT_POSSIBLE);
        room.pass(99);
        Due.due("ahead of its last tick", room.setProgram(), Due.NOT_POSSIBLE);
        Due.write(room, "0000000000000");
        Due.due("ahead of FULL", room.setProgram(), Due.NOT_POSSIBLE);
        room.pass(1);
        Due.due("over: FULL", room.setProgram(), Due.FULL);
        Due.write(room, "01");
        Due.due("over", room.setProgram(), 2);
        Due.dueAll("program", Due.program(room), 0, 1);
    }

    /** "Makes the program that of the text": a longer and a shorter one in its place. */
    static void promise12InPlaceOfTheProgram() {
        ReelChanger room = Due.withProgram("01", 100, 100);
        Due.write(room, "(10)x6");
        Due.due("a longer one", room.setProgram(), 12);
        Due.dueAll("program", Due.program(room), 1, 0, 1, 0, 1, 0, 1, 0, 1, 0, 1, 0);
        Due.write(room, "1");
        Due.due("a shorter one", room.setProgram(), 1);
        Due.dueAll("program", Due.program(room), 1);
    }

    /** "so does what tell() and projector() tell of a show that is over, until the next one begins" */
    static void promise12TheEndOfTheShowStays() {
        ReelChanger room = Due.showing("010", 100, 110);
        room.pass(2000);
        int[] told = Due.told(room);
        int[] first = Due.onProjector(room, 0);
        int[] second = Due.onProjector(room, 1);
        Due.due("the place of the old program", first[1], 2);
        Due.write(room, "1");
        Due.due("setProgram", room.setProgram(), 1);
        Due.dueAll("told", Due.told(room), told);
        Due.dueAll("projector 0", Due.onProjector(room, 0), first);
        Due.dueAll("projector 1", Due.onProjector(room, 1), second);
        room.begin();
        Due.dueAll("told of the next", Due.told(room), 1, 0, 0, 0, 0, 0, 0, 1, 0, 0);
    }

    /** "place: the place in the program, counted from 0": of an empty program, of one reel, and of twelve. */
    static void promise13ThePlaces() {
        ReelChanger room = withReels(2);
        Due.due("empty", room.program(0), Due.BAD_INDEX);
        Due.write(room, "1");
        room.setProgram();
        Due.due("place -1", room.program(-1), Due.BAD_INDEX);
        Due.due("place 0", room.program(0), 1);
        Due.due("place 1 of one", room.program(1), Due.BAD_INDEX);
        Due.write(room, "00000000001");
        room.setProgram();
        Due.due("place 10 of eleven", room.program(10), 1);
        Due.due("place 11 of eleven", room.program(11), Due.BAD_INDEX);
        Due.write(room, "000000000001");
        room.setProgram();
        Due.due("place 11", room.program(11), 1);
        Due.due("place 12", room.program(12), Due.BAD_INDEX);
        Due.due("far below", room.program(Integer.MIN_VALUE), Due.BAD_INDEX);
        Due.due("far above", room.program(Integer.MAX_VALUE), Due.BAD_INDEX);
    }

    /** "There is no such .. place": none of those beyond the last, though a longer program has been set. */
    static void promise13ThePlacesBeyondTheLast() {
        ReelChanger room = Due.withProgram("111111111111", 100, 100);
        for (int count = 11; count >= 1; count--) {
            Due.write(room, "0".repeat(count));
            Due.due("setProgram", room.setProgram(), count);
            for (int place = 0; place <= 13; place++) {
                Due.due("place " + place, room.program(place), place < count ? 0 : Due.BAD_INDEX);
            }
        }
    }
}
