/** Promises 33 to 36: the text, how it is read, and its faults. */
public final class TextTest {
    private static final int BAD_NUMBER = FibreBench.BAD_NUMBER;
    private static final int BAD_VALUE = FibreBench.BAD_VALUE;
    private static final int FULL = FibreBench.FULL;
    private static final int NOT_POSSIBLE = FibreBench.NOT_POSSIBLE;
    private static final int NONE = FibreBench.NONE;
    private static final int LOW = Integer.MIN_VALUE;
    private static final int HIGH = Integer.MAX_VALUE;
    private static final Check CHECK = new Check();

    public static void main(String[] args) {
        write();
        wipe();
        load();
        loadIsAChange();
        wrongCharacters();
        wrongNumbers();
        tooLong();
        tooMany();
        fault();
        CHECK.end();
    }

    private static void put(FibreBench x, String text) {
        x.wipe();
        for (int i = 0; i < text.length(); i++) {
            CHECK.due("write(" + (int) text.charAt(i) + ")", x.write(text.charAt(i)), i + 1);
        }
    }

    private static void write() {
        CHECK.promise(33, "write");
        FibreBench x = new FibreBench();
        for (int code : new int[] {31, 127, -1, 0, 255, LOW, HIGH}) {
            CHECK.due("write(" + code + ")", x.write(code), BAD_VALUE);
        }
        for (int i = 0; i < 120; i++) {
            int code = i % 2 == 0 ? 32 : 126;
            CHECK.due("write(" + code + ")", x.write(code), i + 1);
        }
        CHECK.due("a character too many", x.write(50), FULL);
        CHECK.due("BAD_VALUE is named ahead of FULL", x.write(127), BAD_VALUE);
        CHECK.due("told(7)", x.told(7), 120);
        CHECK.due("no change to undo", x.undo(), NOT_POSSIBLE);
    }

    private static void wipe() {
        CHECK.promise(34, "wipe");
        FibreBench x = new FibreBench();
        CHECK.due("wipe() of nothing", x.wipe(), 0);
        put(x, "1x1b1;");
        CHECK.due("wipe()", x.wipe(), 6);
        CHECK.due("told(7)", x.told(7), 0);
        CHECK.due("write(49)", x.write(49), 1);
        CHECK.due("load() of what is left", x.load(), NOT_POSSIBLE);
        CHECK.due("fault(0)", x.fault(0), 1);
        CHECK.due("no change to undo", x.undo(), NOT_POSSIBLE);
        for (int i = 1; i < 120; i++) {
            x.write(48);
        }
        CHECK.due("wipe() of a full text", x.wipe(), 120);
        CHECK.due("write(49)", x.write(49), 1);
    }

    private static void load() {
        CHECK.promise(35, "load");
        FibreBench x = new FibreBench();
        put(x, "1x1b0;100x60b2000;0099x001b0001;07x08b9;");
        CHECK.due("load()", x.load(), 4);
        int[][] due = {{1, 1, 0, 0}, {100, 60, 2000, 1}, {99, 1, 1, 101}, {7, 8, 9, 200}};
        for (int section = 0; section < 4; section++) {
            for (int what = 0; what < 4; what++) {
                CHECK.due("section(" + section + ", " + what + ")", x.section(section, what), due[section][what]);
            }
        }
        CHECK.due("told(0)", x.told(0), 207);
        CHECK.due("the text stays", x.told(7), 40);
        CHECK.due("no fault", x.fault(0), NONE);
        CHECK.due("load() again", x.load(), 4);
        put(x, "1x1b1;2x1b1;3x1b1;4x1b1;5x1b1;6x1b1;7x1b1;8x1b1;");
        CHECK.due("eight items", x.load(), 8);
        CHECK.due("told(0)", x.told(0), 36);
        CHECK.due("section(7, 3)", x.section(7, 3), 28);
        put(x, "100x1b1;100x1b1;99x1b1;1x1b1;");
        CHECK.due("300 units", x.load(), 4);
        CHECK.due("told(0)", x.told(0), 300);
        put(x, "0037x0060b2000;0037x0060b2000;0037x0060b2000;0037x0060b2000;"
                + "0037x0060b2000;0037x0060b2000;0037x0060b2000;0037x0060b200;");
        CHECK.due("a text of 119 characters", x.load(), 8);
        CHECK.due("told(0)", x.told(0), 8 * 37);
    }

    private static void loadIsAChange() {
        CHECK.promise(35, "load: a change");
        FibreBench x = new FibreBench();
        x.addSection(50, 10, 10);
        x.setJoint(0, 1, 2);
        x.setJoint(1, 3, 4);
        x.setJoint(2, 5, 6);
        x.addBend(7, 8);
        x.setBreak(9, 10);
        x.set(0, 11);
        put(x, "20x2b2;30x3b3;");
        CHECK.due("load()", x.load(), 2);
        int[] told = {50, 2, 0, 0, 0, 0, 30, 14};
        for (int what = 0; what < told.length; what++) {
            CHECK.due("told(" + what + ")", x.told(what), told[what]);
        }
        for (int joint = 0; joint <= 2; joint++) {
            CHECK.due("joint(" + joint + ", 0)", x.joint(joint, 0), 0);
            CHECK.due("joint(" + joint + ", 1)", x.joint(joint, 1), 0);
        }
        CHECK.due("bend(0, 0)", x.bend(0, 0), BAD_NUMBER);
        CHECK.due("undo()", x.undo(), 7);
        CHECK.due("told(0)", x.told(0), 150);
        CHECK.due("joint(2, 1)", x.joint(2, 1), 6);
        CHECK.due("told(3)", x.told(3), 9);
        put(x, "20x2b2;30x3b3;4");
        CHECK.due("load() with a fault", x.load(), NOT_POSSIBLE);
        CHECK.due("changes nothing", x.told(0), 150);
        CHECK.due("and cannot be undone", x.undo(), 6);
        CHECK.due("set(0, 5)", x.set(0, 5), 20);
    }

    private static void dueFault(String text, int place, int kind) {
        FibreBench x = new FibreBench();
        put(x, text);
        CHECK.due("load() of '" + text + "'", x.load(), NOT_POSSIBLE);
        CHECK.due("place of the fault in '" + text + "'", x.fault(0), place);
        CHECK.due("kind of the fault in '" + text + "'", x.fault(1), kind);
        CHECK.due("told(0) behind a fault", x.told(0), 100);
        CHECK.due("undo() behind a fault", x.undo(), NOT_POSSIBLE);
    }

    private static void wrongCharacters() {
        CHECK.promise(35, "load: wrong characters");
        String item = "12x34b56;";
        // The end of the text within an item: its length is the place.
        for (int length = 0; length < item.length(); length++) {
            dueFault(item.substring(0, length), length, 1);
            if (length > 0) {
                dueFault(item + item.substring(0, length), item.length() + length, 1);
            }
        }
        // A sign that can stand nowhere, at each place.
        for (int place = 0; place <= item.length(); place++) {
            dueFault(item.substring(0, place) + " " + item.substring(place), place, 1);
            dueFault(item.substring(0, place) + "y" + item.substring(place), place, 1);
        }
        dueFault("x34b56;", 0, 1);
        dueFault("12xb56;", 3, 1);
        dueFault("12x34b;", 6, 1);
        dueFault("12b34x56;", 2, 1);
        dueFault("12X34b56;", 2, 1);
        dueFault("12x34B56;", 5, 1);
        dueFault("12x34b56:", 8, 1);
        dueFault("12x34b56;;", 9, 1);
        dueFault("-1x34b56;", 0, 1);
        dueFault("/x1b1;", 0, 1);
        dueFault(":x1b1;", 0, 1);
        // A fifth digit stands where a sign is due; the number before it is checked first.
        dueFault("00121x1b1;", 4, 1);
        dueFault("12x00341b1;", 7, 1);
        dueFault("12x34b00001;", 10, 1);
        dueFault("12x34b20000;", 10, 1);
    }

    private static void wrongNumbers() {
        CHECK.promise(35, "load: wrong numbers");
        dueFault("0x1b1;", 0, 2);
        dueFault("0000x1b1;", 0, 2);
        dueFault("101x1b1;", 0, 2);
        dueFault("9999x1b1;", 0, 2);
        dueFault("99999x1b1;", 0, 2);
        dueFault("5x0b1;", 2, 2);
        dueFault("5x61b1;", 2, 2);
        dueFault("5x0061b1;", 2, 2);
        dueFault("5x60b2001;", 5, 2);
        dueFault("5x60b9999;", 5, 2);
        dueFault("5x60b2000;5x0b1;", 12, 2);
        // A number is checked when it ends, ahead of what comes behind it.
        dueFault("0", 0, 2);
        dueFault("101", 0, 2);
        dueFault("101y", 0, 2);
        dueFault("5x61", 2, 2);
        dueFault("5x61 ", 2, 2);
        dueFault("5x1b2001", 4, 2);
        dueFault("5x1b20010", 4, 2);
        dueFault("5x1b2001x", 4, 2);
    }

    private static void tooLong() {
        CHECK.promise(35, "load: too long");
        dueFault("100x1b1;100x1b1;100x1b1;1x1b1;", 24, 3);
        dueFault("100x1b1;100x1b1;99x1b1;0002x1b1;", 23, 3);
        // Checked when the length ends, but only if it is allowed by itself.
        dueFault("100x1b1;100x1b1;100x1b1;1", 24, 3);
        dueFault("100x1b1;100x1b1;100x1b1;1y", 24, 3);
        dueFault("100x1b1;100x1b1;100x1b1;1x0b1;", 24, 3);
        dueFault("100x1b1;100x1b1;100x1b1;0x1b1;", 24, 2);
        dueFault("100x1b1;100x1b1;100x1b1;101x1b1;", 24, 2);
        dueFault("100x1b1;100x1b1;100x1b1;x", 24, 1);
        dueFault("100x1b1;100x1b1;100x0b1;1x1b1;", 20, 2);
    }

    private static void tooMany() {
        CHECK.promise(35, "load: too many items");
        String eight = "1x1b1;1x1b1;1x1b1;1x1b1;1x1b1;1x1b1;1x1b1;1x1b1;";
        dueFault(eight + "1", 48, 4);
        dueFault(eight + "1x1b1;", 48, 4);
        dueFault(eight + "0x1b1;", 48, 4);
        dueFault(eight + "9999", 48, 4);
        dueFault(eight + "x", 48, 1);
        dueFault(eight + ";", 48, 1);
        dueFault(eight + " ", 48, 1);
        dueFault("1x1b1;1x1b1;1x1b1;1x1b1;1x1b1;100x1b1;100x1b1;95x1b1;1x1b1;", 53, 4);
        dueFault("1x1b1;1x1b1;1x1b1;1x1b1;1x1b1;100x1b1;100x1b1;96x1b1;1x1b1;", 46, 3);
    }

    private static void fault() {
        CHECK.promise(36, "fault");
        FibreBench x = new FibreBench();
        CHECK.due("fault(0) before any load", x.fault(0), NONE);
        CHECK.due("fault(1) before any load", x.fault(1), NONE);
        for (int what : new int[] {-1, 2, LOW, HIGH}) {
            CHECK.due("BAD_VALUE is named ahead of NONE", x.fault(what), BAD_VALUE);
        }
        put(x, "5x6b7;");
        CHECK.due("load()", x.load(), 1);
        CHECK.due("fault(0) behind a good load", x.fault(0), NONE);
        put(x, "5x6b7;8x99");
        CHECK.due("load()", x.load(), NOT_POSSIBLE);
        CHECK.due("fault(0)", x.fault(0), 8);
        CHECK.due("fault(1)", x.fault(1), 2);
        x.wipe();
        CHECK.due("fault(0) behind wipe()", x.fault(0), 8);
        put(x, "5x6b7;");
        CHECK.due("load()", x.load(), 1);
        CHECK.due("fault(0) stays behind a good load", x.fault(0), 8);
        CHECK.due("fault(1) stays behind a good load", x.fault(1), 2);
        x.undo();
        CHECK.due("fault(1) stays behind undo()", x.fault(1), 2);
        x.wipe();
        CHECK.due("load() of nothing", x.load(), NOT_POSSIBLE);
        CHECK.due("the latest fault counts", x.fault(0), 0);
        CHECK.due("the latest fault counts", x.fault(1), 1);
        for (int what : new int[] {-1, 2, LOW, HIGH}) {
            CHECK.due("fault(" + what + ")", x.fault(what), BAD_VALUE);
        }
    }
}
