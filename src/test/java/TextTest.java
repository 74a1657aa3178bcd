/** Promises 8 to 13: the text and the program. */
final class TextTest {
    static void promise08AppendTakesSixtyBytes() {
        ReelChanger room = new ReelChanger();
        for (int i = 1; i <= 60; i++) {
            Due.due("append", room.append(i % 2 == 0 ? 0 : 127), i);
        }
        Due.due("a 61st", room.append(48), Due.FULL);
        Due.due("BAD_VALUE is checked ahead", room.append(128), Due.BAD_VALUE);
        Due.due("clearText", room.clearText(), 60);
        Due.due("again", room.append(48), 1);
        for (int letter : new int[] {Integer.MIN_VALUE, -1, 128, 304, Integer.MAX_VALUE}) {
            Due.due("append " + letter, room.append(letter), Due.BAD_VALUE);
        }
        Due.due("unchanged", room.clearText(), 1);
    }

    static void promise09ClearTextEmpties() {
        ReelChanger room = Due.withReels(100);
        Due.write(room, "(0)");
        Due.due("clearText", room.clearText(), 3);
        Due.due("clearText again", room.clearText(), 0);
        Due.due("empty", room.faultPosition(), 0);
        room.append('0');
        Due.due("no fault", room.faultPosition(), Due.NONE);
    }

    private static void fault(String text, int position, int depth) {
        ReelChanger room = Due.withReels(100, 100, 100);
        Due.write(room, text);
        Due.due("faultPosition of " + text, room.faultPosition(), position);
        Due.due("faultDepth of " + text, room.faultDepth(), depth);
        if (position != Due.NONE) {
            Due.due("setProgram of " + text, room.setProgram(), Due.NOT_POSSIBLE);
            Due.dueAll("program of " + text, Due.program(room));
        }
    }

    static void promise10And11TextsWithoutFault() {
        for (String text : new String[] {"0", "2", "012", "(0)", "(0)x2", "(0)x9", "((0))", "(((0)x2)x2)x2", "0(1)2",
            "(0)(1)", "(0)x2(1)x3", "(0)x21", "(0)x2(1)2", "((0)1(2))x2", "(((0)(1))2)", "(0(1)x2)x3"}) {
            fault(text, Due.NONE, Due.NONE);
        }
    }

    static void promise10And11FaultsAtABytes() {
        fault("3", 0, 0);
        fault("013", 2, 0);
        fault("(9)", 1, 1);
        fault(")", 0, 0);
        fault("0)", 1, 0);
        fault("()", 1, 1);
        fault("(()", 2, 2);
        fault("(0())", 3, 2);
        fault("((((0))))", 3, 3);
        fault("(((0))((0)))", Due.NONE, Due.NONE);
        fault("(((0))(((0))))", 8, 3);
        fault("x", 0, 0);
        fault("0x2", 1, 0);
        fault("(x", 1, 1);
        fault("(0x2)", 2, 1);
        fault("(0)x0", 4, 0);
        fault("(0)x1", 4, 0);
        fault("(0)xx", 4, 0);
        fault("(0)x(", 4, 0);
        fault("(0)x)", 4, 0);
        fault("((0)x1)", 5, 1);
        fault("(0)x2x2", 5, 0);
        fault("(0)x2)", 5, 0);
        fault("(0)x23", 5, 0);
        fault("(0)X2", 3, 0);
        fault("0 1", 1, 0);
        fault("0/", 1, 0);
        fault("0:", 1, 0);
        fault("(0)x:", 4, 0);
        fault("((0)) x2", 5, 0);
        fault("0\0", 1, 0);
        fault("0\177", 1, 0);
        fault("(((0)x2)x3)x4(", 14, 1);
    }

    static void promise10And11FaultsAtTheEnd() {
        fault("", 0, 0);
        fault("(", 1, 1);
        fault("((", 2, 2);
        fault("(((", 3, 3);
        fault("(0", 2, 1);
        fault("(0)x", 4, 0);
        fault("((0)x", 5, 1);
        fault("((0)x2", 6, 1);
        fault("0(", 2, 1);
        fault("((0)", 4, 1);
    }

    static void promise10And11FaultGoesWithTheReels() {
        ReelChanger room = new ReelChanger();
        Due.write(room, "(01)");
        Due.due("no reels", room.faultPosition(), 1);
        Due.due("no reels", room.faultDepth(), 1);
        room.makeReel(100);
        Due.due("one reel", room.faultPosition(), 2);
        room.save(0);
        room.makeReel(100);
        Due.due("two reels", room.faultPosition(), Due.NONE);
        Due.due("two reels", room.faultDepth(), Due.NONE);
        room.restore(0);
        Due.due("one reel again", room.faultPosition(), 2);
        room.clearText();
        room.append('(');
        Due.due("too short, whatever the reels", new ReelChanger().faultPosition(), 0);
        Due.due("too short", room.faultPosition(), 1);
    }

    static void promise10DigitsUpToNine() {
        ReelChanger room = Due.withReels(100, 100, 100, 100, 100, 100, 100, 100, 100, 100);
        Due.write(room, "0123456789");
        Due.due("no fault", room.faultPosition(), Due.NONE);
        Due.due("setProgram", room.setProgram(), 10);
        Due.dueAll("program", Due.program(room), 0, 1, 2, 3, 4, 5, 6, 7, 8, 9);
    }

    private static void program(String text, int... want) {
        ReelChanger room = Due.withReels(100, 100, 100);
        Due.write(room, text);
        Due.due("setProgram of " + text, room.setProgram(), want.length);
        Due.dueAll("program of " + text, Due.program(room), want);
    }

    static void promise12ProgramsOfTexts() {
        program("0", 0);
        program("210", 2, 1, 0);
        program("(0)", 0);
        program("(01)x2", 0, 1, 0, 1);
        program("0(12)x31", 0, 1, 2, 1, 2, 1, 2, 1);
        program("((0)x21)x3", 0, 0, 1, 0, 0, 1, 0, 0, 1);
        program("((01)x2(2)x3)", 0, 1, 0, 1, 2, 2, 2);
        program("(((0)x2)x2)x3", 0, 0, 0, 0, 0, 0, 0, 0, 0, 0, 0, 0);
        program("(((2)))1", 2, 1);
        program("0(1(2(0)x2))x2", 0, 1, 2, 0, 0, 1, 2, 0, 0);
        program("0(1(2(0)x3)x2)", 0, 1, 2, 0, 0, 0, 2, 0, 0, 0);
        program("01((2)(0(1)x2)x2)", 0, 1, 2, 0, 1, 1, 0, 1, 1);
        program("(0)x2(1)x2(2)x2", 0, 0, 1, 1, 2, 2);
        program("(0)(12)x2", 0, 1, 2, 1, 2);
        program("012012012012", 0, 1, 2, 0, 1, 2, 0, 1, 2, 0, 1, 2);
        program("(0)x31(1)x2(12)x3", 0, 0, 0, 1, 1, 1, 1, 2, 1, 2, 1, 2);
    }

    static void promise12ProgramsOfMoreThanTwelve() {
        ReelChanger room = Due.withProgram("10", 100, 100);
        for (String text : new String[] {"0101010101010", "(0)x9(1)x4", "((0)x9)x9", "(((0)x9)x9)x9", "(0101010)x2",
            "0(((0)x2)x2)x3", "(((01)x7))", "(0)x9(0)x9(0)x9(0)x9(0)x9(0)x9(0)x9(0)x9"}) {
            Due.write(room, text);
            Due.due("no fault of " + text, room.faultPosition(), Due.NONE);
            Due.due("setProgram of " + text, room.setProgram(), Due.FULL);
            Due.dueAll("program as before", Due.program(room), 1, 0);
        }
    }

    static void promise12TextStays() {
        ReelChanger room = Due.withReels(100);
        Due.write(room, "(0)x2");
        room.setProgram();
        Due.due("setProgram again", room.setProgram(), 2);
        Due.due("text", room.clearText(), 5);
        Due.due("without a text", room.setProgram(), Due.NOT_POSSIBLE);
        Due.dueAll("program", Due.program(room), 0, 0);
    }

    static void promise12NotWhileAShowGoesOn() {
        ReelChanger room = Due.showing("01", 100, 110);
        Due.write(room, "1");
        Due.due("in the show", room.setProgram(), Due.NOT_POSSIBLE);
        Due.write(room, "0000000000000");
        Due.due("ahead of FULL", room.setProgram(), Due.NOT_POSSIBLE);
        Due.due("still shown", room.pass(2000), 100 + 110 - 20);
        Due.due("too many behind it", room.setProgram(), Due.FULL);
        Due.write(room, "0");
        int[] told = Due.told(room);
        int[] first = Due.onProjector(room, 0);
        int[] second = Due.onProjector(room, 1);
        Due.due("behind it", room.setProgram(), 1);
        Due.dueAll("program", Due.program(room), 0);
        Due.dueAll("told stays", Due.told(room), told);
        Due.dueAll("projector 0 stays", Due.onProjector(room, 0), first);
        Due.dueAll("projector 1 stays", Due.onProjector(room, 1), second);
        Due.due("place of the old program", room.projector(1, 1), 1);
        Due.due("reels of the old program", room.tell(7), 2);
        Due.due("begin", room.begin(), 1);
        Due.due("reels of the new program", room.tell(7), 1);
        Due.due("new projector 1", room.projector(1, 0), ReelChanger.EMPTY);
    }

    static void promise13ProgramTellsReels() {
        ReelChanger room = Due.withProgram("1(02)x2", 100, 100, 100);
        Due.dueAll("program", Due.program(room), 1, 0, 2, 0, 2);
        Due.due("program(5)", room.program(5), Due.BAD_INDEX);
        for (int far : Due.FAR) {
            Due.due("program " + far, room.program(far), Due.BAD_INDEX);
        }
        Due.write(room, "2");
        room.setProgram();
        Due.due("program(0)", room.program(0), 2);
        Due.due("program(1)", room.program(1), Due.BAD_INDEX);
        Due.write(room, "(0)x9(1)x3");
        room.setProgram();
        Due.due("program(11)", room.program(11), 1);
        Due.due("program(12)", room.program(12), Due.BAD_INDEX);
    }
}
