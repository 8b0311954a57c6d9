/** The edges that the document names for the text: "The text" under "Terms", and promises 33 to 36. */
public final class TextEdgeTest {
    private static final int BAD_VALUE = FibreBench.BAD_VALUE;
    private static final int FULL = FibreBench.FULL;
    private static final int NOT_POSSIBLE = FibreBench.NOT_POSSIBLE;
    private static final int NONE = FibreBench.NONE;
    private static final int LOW = Integer.MIN_VALUE;
    private static final int HIGH = Integer.MAX_VALUE;
    private static final String EIGHT = "1x1b1;".repeat(8);
    private static final String FULL_LENGTH = "100x1b1;".repeat(3);
    private static final Check CHECK = new Check();

    public static void main(String[] args) {
        lengthOfTheText();
        codes();
        emptiedText();
        blanks();
        items();
        itemsOfTheLongestText();
        digits();
        zerosAhead();
        fourthDigit();
        checkedWhenItEnds();
        firstFault();
        wrongCharacter();
        endOfTheText();
        wrongNumber();
        tooLong();
        tooLongOrWrong();
        ninthItem();
        newFibre();
        textStays();
        latestFault();
        noFault();
        CHECK.end();
    }

    private static FibreBench written(String text) {
        FibreBench x = new FibreBench();
        Benches.write(x, text);
        return x;
    }

    private static void dueLoaded(String text, int sections) {
        FibreBench x = written(text);
        CHECK.due("load() of '" + text + "'", x.load(), sections);
        CHECK.due("sections of '" + text + "'", x.told(1), sections);
        CHECK.due("fault(0) behind '" + text + "'", x.fault(0), NONE);
    }

    private static void dueFault(String text, int kind, int place) {
        FibreBench x = written(text);
        CHECK.due("load() of '" + text + "'", x.load(), NOT_POSSIBLE);
        CHECK.due("kind of the fault in '" + text + "'", x.fault(1), kind);
        CHECK.due("place of the fault in '" + text + "'", x.fault(0), place);
    }

    // ---- The text

    private static void lengthOfTheText() {
        CHECK.sentence("Returns the new length of the text; BAD_VALUE; FULL if the text has 120 characters.");
        FibreBench x = new FibreBench();
        CHECK.due("empty", x.told(7), 0);
        for (int length = 1; length <= 120; length++) {
            CHECK.due("write(65)", x.write(65), length);
        }
        CHECK.due("told(7)", x.told(7), 120);
        CHECK.due("one too many", x.write(65), FULL);
        CHECK.due("BAD_VALUE is named ahead of FULL", x.write(31), BAD_VALUE);
        CHECK.due("BAD_VALUE is named ahead of FULL", x.write(127), BAD_VALUE);
        CHECK.due("told(7)", x.told(7), 120);
        x.wipe();
        CHECK.due("room again", x.write(65), 1);
    }

    private static void codes() {
        CHECK.sentence("- `code`: its code, 32 to 126");
        for (int code = 32; code <= 126; code++) {
            CHECK.due("write(" + code + ")", new FibreBench().write(code), 1);
        }
        for (int code : new int[] {31, 127, 0, -1, LOW, HIGH, 48 + 256, 48 + 65536}) {
            FibreBench x = new FibreBench();
            CHECK.due("write(" + code + ")", x.write(code), BAD_VALUE);
            CHECK.due("told(7)", x.told(7), 0);
        }
    }

    private static void emptiedText() {
        CHECK.sentence("Returns the length that it had.");
        CHECK.due("nothing", new FibreBench().wipe(), 0);
        CHECK.due("one", written("1").wipe(), 1);
        FibreBench x = written(Benches.LONGEST_TEXT);
        CHECK.due("all", x.wipe(), 120);
        CHECK.due("nothing is left", x.told(7), 0);
        CHECK.due("nothing again", x.wipe(), 0);
        CHECK.due("nothing can be read", x.load(), NOT_POSSIBLE);
        CHECK.due("kind", x.fault(1), 1);
        CHECK.due("place", x.fault(0), 0);
        // What stood behind the end of a shorter text does not come back.
        Benches.write(x, "5x6b7");
        CHECK.due("load()", x.load(), NOT_POSSIBLE);
        CHECK.due("place", x.fault(0), 5);
    }

    private static void blanks() {
        CHECK.sentence("A fibre can be read from a text of at most 120 characters with codes from 32 to 126, without blanks.");
        String item = "12x34b56;";
        for (int place = 0; place <= item.length(); place++) {
            dueFault(item.substring(0, place) + " " + item.substring(place), 1, place);
        }
        dueFault(" ", 1, 0);
        // Each code at the place of the first digit: only digits can stand there.
        for (int code = 32; code <= 126; code++) {
            String text = (char) code + "x1b1;";
            if (code > '0' && code <= '9') {
                dueLoaded(text, 1);
            } else {
                dueFault(text, code == '0' ? 2 : 1, 0);
            }
        }
    }

    private static void items() {
        CHECK.sentence("It consists of 1 to 8 items; each is a length, the sign x, an attenuation, the sign b, a scatter, "
                + "and a semicolon.");
        for (int items = 1; items <= 8; items++) {
            dueLoaded("1x1b1;".repeat(items), items);
        }
        dueFault("", 1, 0);
        dueFault("1x1b1;".repeat(9), 4, 48);
        // Each code at the places of the signs: only x, b and ; can stand there.
        for (int code = 32; code <= 126; code++) {
            if (code < '0' || code > '9') {
                dueSign("5" + (char) code + "6b7;", 1, code == 'x');
                dueSign("5x6" + (char) code + "7;", 3, code == 'b');
                dueSign("5x6b7" + (char) code, 5, code == ';');
            }
        }
    }

    private static void dueSign(String text, int place, boolean allowed) {
        if (allowed) {
            dueLoaded(text, 1);
        } else {
            dueFault(text, 1, place);
        }
    }

    private static void itemsOfTheLongestText() {
        CHECK.sentence("A fibre can be read from a text of at most 120 characters");
        FibreBench x = written(Benches.LONGEST_TEXT);
        CHECK.due("told(7)", x.told(7), 120);
        CHECK.due("load()", x.load(), 8);
        CHECK.due("told(0)", x.told(0), 296);
        for (int section = 0; section < 8; section++) {
            CHECK.due("length", x.section(section, 0), 37);
            CHECK.due("attenuation", x.section(section, 1), 60);
            CHECK.due("scatter", x.section(section, 2), 2000);
        }
        // A text that is full before its last item ends.
        dueFault(Benches.LONGEST_TEXT.substring(1) + "1", 4, 119);
        dueFault("9".repeat(120), 2, 0);
        dueFault("0001x0001b0001;".repeat(7) + "0001x0001b00011", 1, 119);
    }

    // ---- Numbers

    private static void digits() {
        CHECK.sentence("Numbers have one to four digits (as many as possible, but at most four)");
        dueLoaded("1x1b1;", 1);
        dueLoaded("11x11b11;", 1);
        dueLoaded("100x011b111;", 1);
        dueLoaded("0100x0011b1111;", 1);
        dueFault("x1b1;", 1, 0);
        dueFault("1xb1;", 1, 2);
        dueFault("1x1b;", 1, 4);
        // A fifth digit stands where a sign is due.
        dueFault("00011x1b1;", 1, 4);
        dueFault("1x00011b1;", 1, 6);
        dueFault("1x1b00011;", 1, 8);
        // As many as possible: not 10 and then a 1 that cannot stand there.
        dueFault("101x1b1;", 2, 0);
        dueFault("1x601b1;", 2, 2);
        dueFault("1x1b2001;", 2, 4);
    }

    private static void zerosAhead() {
        CHECK.sentence("zeros may stand ahead of others.");
        FibreBench x = written("0007x0008b0009;07x08b09;007x008b000;");
        CHECK.due("load()", x.load(), 3);
        int[] due = {7, 8, 9, 7, 8, 9, 7, 8, 0};
        for (int i = 0; i < 9; i++) {
            CHECK.due("number " + i, x.section(i / 3, i % 3), due[i]);
        }
        dueLoaded("1x1b0;", 1);
        dueLoaded("1x1b00;", 1);
        dueLoaded("1x1b0000;", 1);
        dueFault("0x1b1;", 2, 0);
        dueFault("0000x1b1;", 2, 0);
        dueFault("1x0b1;", 2, 2);
        dueFault("1x0000b1;", 2, 2);
        dueFault("1x1b00000;", 1, 8);
    }

    private static void fourthDigit() {
        CHECK.sentence("A number ends behind its fourth digit, before a character that is no digit, or at the end of the text");
        // Behind the fourth digit: 0101 is checked, although a fifth digit follows, which cannot stand there.
        dueFault("01011x1b1;", 2, 0);
        dueFault("01001x1b1;", 1, 4);
        dueFault("1x00611b1;", 2, 2);
        dueFault("1x00601b1;", 1, 6);
        dueFault("1x1b20011;", 2, 4);
        dueFault("1x1b20001;", 1, 8);
        // Before a character that is no digit.
        dueFault("101y", 2, 0);
        dueFault("100y", 1, 3);
        // At the end of the text.
        dueFault("101", 2, 0);
        dueFault("100", 1, 3);
        dueFault("1x61", 2, 2);
        dueFault("1x60", 1, 4);
        dueFault("1x1b2001", 2, 4);
        dueFault("1x1b2000", 1, 8);
    }

    private static void checkedWhenItEnds() {
        CHECK.sentence("it is checked then, ahead of what comes behind it.");
        for (String behind : new String[] {"", "y", " ", ";", "b", "x", "x0b1;", "x1b9999;"}) {
            dueFault("0" + behind, 2, 0);
            dueFault("101" + behind, 2, 0);
            dueFault(FULL_LENGTH + "1" + behind, 3, 24);
        }
        for (String behind : new String[] {"", "y", " ", ";", "x", "b", "b9999;"}) {
            dueFault("5x0" + behind, 2, 2);
            dueFault("5x61" + behind, 2, 2);
        }
        for (String behind : new String[] {"", "y", " ", ";", "x", ";0x1b1;"}) {
            dueFault("5x1b2001" + behind, 2, 4);
        }
    }

    private static void firstFault() {
        CHECK.sentence("The text is read from left to right, and the first fault counts.");
        dueFault("0x0b9999y", 2, 0);
        dueFault("5x0b9999y", 2, 2);
        dueFault("5x6b9999y", 2, 4);
        dueFault("5y0b9999", 1, 1);
        dueFault("5x6b7;0x1b1;y", 2, 6);
        dueFault("5x6b7;y0x1b1;", 1, 6);
        dueFault(EIGHT + "y1x1b1;", 1, 48);
        dueFault(EIGHT.substring(0, 42) + "0x1b1;1x1b1;", 2, 42);
    }

    // ---- Faults

    private static void wrongCharacter() {
        CHECK.sentence("A fault has a kind and a place, an index from 0: 1 a character that cannot stand at its place");
        dueFault("x", 1, 0);
        dueFault(";", 1, 0);
        dueFault("5;", 1, 1);
        dueFault("5b", 1, 1);
        dueFault("5xx", 1, 2);
        dueFault("5x6x", 1, 3);
        dueFault("5x6;", 1, 3);
        dueFault("5x6b;", 1, 4);
        dueFault("5x6b7x", 1, 5);
        dueFault("5x6b7;;", 1, 6);
        dueFault("5x6b7;x", 1, 6);
        dueFault("5X6b7;", 1, 1);
        dueFault("5x6B7;", 1, 3);
        dueFault("-5x6b7;", 1, 0);
        dueFault("+5x6b7;", 1, 0);
        // The signs that stand beside the digits in the row of codes.
        dueFault("/x6b7;", 1, 0);
        dueFault(":x6b7;", 1, 0);
        dueFault("5x6b7/", 1, 5);
        dueFault("5x6b7:", 1, 5);
    }

    private static void endOfTheText() {
        CHECK.sentence("or the end of the text within an item or without one (the place is the index of this character, or the "
                + "length of the text)");
        String item = "12x34b56;";
        for (int length = 0; length < item.length(); length++) {
            dueFault(item.substring(0, length), 1, length);
        }
        for (int length = 1; length < item.length(); length++) {
            dueFault(item + item.substring(0, length), 1, item.length() + length);
        }
        dueLoaded(item, 1);
        dueLoaded(item + item, 2);
        // Within the last item of the longest text there is.
        dueFault("0001x0001b0001;".repeat(7) + "0001x0001b0001", 1, 119);
    }

    private static void wrongNumber() {
        CHECK.sentence("2 a number that is not allowed where it stands (the index of its first digit)");
        dueFault("0x1b1;", 2, 0);
        dueFault("101x1b1;", 2, 0);
        dueFault("0101x1b1;", 2, 0);
        dueFault("9999x1b1;", 2, 0);
        dueFault("1x0b1;", 2, 2);
        dueFault("1x61b1;", 2, 2);
        dueFault("100x0061b1;", 2, 4);
        dueFault("1x9999b1;", 2, 2);
        dueFault("1x1b2001;", 2, 4);
        dueFault("1x1b9999;", 2, 4);
        dueFault("1x1b1;1x1b1;1x1b2001;", 2, 16);
        // What is allowed in one place is not in another.
        dueLoaded("61x60b61;", 1);
        dueFault("61x61b61;", 2, 3);
        dueLoaded("100x1b101;", 1);
        dueFault("101x1b100;", 2, 0);
    }

    private static void tooLong() {
        CHECK.sentence("3 a length that is allowed by itself, but with which the sum of all lengths is above 300 (the index of "
                + "its first digit; it is checked when it ends)");
        dueLoaded("100x1b1;100x1b1;99x1b1;1x1b1;", 4);
        dueFault("100x1b1;100x1b1;99x1b1;2x1b1;", 3, 23);
        dueFault("100x1b1;100x1b1;99x1b1;0002x1b1;", 3, 23);
        dueFault("100x1b1;100x1b1;99x1b1;00021x1b1;", 3, 23);
        dueFault(FULL_LENGTH + "1x1b1;", 3, 24);
        dueFault(FULL_LENGTH + "100x1b1;", 3, 24);
        dueFault(FULL_LENGTH + "1", 3, 24);
        dueLoaded(FULL_LENGTH, 3);
        // The eighth item reaches 300, or goes beyond it.
        dueLoaded("100x1b1;100x1b1;" + "1x1b1;".repeat(5) + "95x1b1;", 8);
        dueFault("100x1b1;100x1b1;" + "1x1b1;".repeat(5) + "96x1b1;", 3, 46);
        // The sum is the text's own: the fibre that is there does not count.
        FibreBench x = Benches.longest();
        Benches.write(x, "100x1b1;100x1b1;100x1b1;");
        CHECK.due("load() in place of the longest fibre", x.load(), 3);
    }

    private static void tooLongOrWrong() {
        CHECK.sentence("3 a length that is allowed by itself");
        dueFault(FULL_LENGTH + "0x1b1;", 2, 24);
        dueFault(FULL_LENGTH + "101x1b1;", 2, 24);
        dueFault(FULL_LENGTH + "9999", 2, 24);
        dueFault(FULL_LENGTH + "x", 1, 24);
        // Only lengths are summed up, not the other numbers.
        dueLoaded("1x60b2000;", 1);
        dueFault(FULL_LENGTH.substring(0, 16) + "100x0b1;1", 2, 20);
    }

    private static void ninthItem() {
        CHECK.sentence("4 a ninth item, if it begins with a digit (the index of this digit).");
        for (char digit = '0'; digit <= '9'; digit++) {
            dueFault(EIGHT + digit, 4, 48);
        }
        dueFault(EIGHT + "1x1b1;", 4, 48);
        dueFault(EIGHT + "9999x1b1;", 4, 48);
        // One that begins with another character has a fault of kind 1.
        for (String sign : new String[] {"x", "b", ";", " ", "/", ":", "~", "-"}) {
            dueFault(EIGHT + sign, 1, 48);
        }
        dueLoaded(EIGHT, 8);
        // It is no length, so its sum is not checked, nor is it looked at as a number.
        String eightOf300 = "100x1b1;100x1b1;" + "1x1b1;".repeat(5) + "95x1b1;";
        dueFault(eightOf300 + "1x1b1;", 4, 53);
        dueFault(eightOf300 + "0x1b1;", 4, 53);
    }

    // ---- load and fault

    private static void newFibre() {
        CHECK.sentence("Reads the sections of a new fibre from the text; it has no losses and heights of joints, no bends and no "
                + "break.");
        FibreBench x = Benches.full();
        CHECK.due("load()", x.load(), 8);
        for (int joint = 0; joint <= 8; joint++) {
            CHECK.due("loss of joint " + joint, x.joint(joint, 0), 0);
            CHECK.due("height of joint " + joint, x.joint(joint, 1), 0);
        }
        CHECK.due("bends", x.told(2), 0);
        CHECK.due("break", x.told(3), 0);
        CHECK.due("its height", x.told(4), 0);
        CHECK.due("the map stays", x.told(5), 10);
        CHECK.due("all its losses", x.lossTo(0, 296), 296 * 60);
        CHECK.due("no reflection at its end", x.sample(1, 9, 296), 5000);
        // A fibre of fewer sections: the joints of the longer one are gone.
        x.wipe();
        Benches.write(x, "3x4b5;");
        CHECK.due("load()", x.load(), 1);
        CHECK.due("told(0)", x.told(0), 3);
        CHECK.due("joint(2, 0)", x.joint(2, 0), FibreBench.BAD_NUMBER);
    }

    private static void textStays() {
        CHECK.sentence("The text stays.");
        FibreBench x = written("5x6b7;");
        CHECK.due("load()", x.load(), 1);
        CHECK.due("told(7)", x.told(7), 6);
        Benches.write(x, "8x9b1;");
        CHECK.due("load() of more", x.load(), 2);
        CHECK.due("told(0)", x.told(0), 13);
        x.write('y');
        CHECK.due("load() with a fault", x.load(), NOT_POSSIBLE);
        CHECK.due("told(7)", x.told(7), 13);
        CHECK.due("the fibre stays", x.told(0), 13);
    }

    private static void latestFault() {
        CHECK.sentence("0 the place, 1 the kind of the fault that the latest call of load() with the result NOT_POSSIBLE has "
                + "found (also if one that found none came behind it)");
        FibreBench x = written("5x6b9999;");
        CHECK.due("load()", x.load(), NOT_POSSIBLE);
        CHECK.due("place", x.fault(0), 4);
        CHECK.due("kind", x.fault(1), 2);
        x.wipe();
        Benches.write(x, "5x6b7;");
        CHECK.due("one that finds none", x.load(), 1);
        CHECK.due("place", x.fault(0), 4);
        CHECK.due("kind", x.fault(1), 2);
        x.write('y');
        CHECK.due("place before load()", x.fault(0), 4);
        CHECK.due("load()", x.load(), NOT_POSSIBLE);
        CHECK.due("the latest place", x.fault(0), 6);
        CHECK.due("the latest kind", x.fault(1), 1);
        x.wipe();
        CHECK.due("load() of nothing", x.load(), NOT_POSSIBLE);
        CHECK.due("the place 0", x.fault(0), 0);
        CHECK.due("its kind", x.fault(1), 1);
    }

    private static void noFault() {
        CHECK.sentence("Returns this; BAD_VALUE; NONE if there was no such call.");
        FibreBench x = written("5x6b7;");
        for (int round = 0; round < 2; round++) {
            CHECK.due("fault(0)", x.fault(0), NONE);
            CHECK.due("fault(1)", x.fault(1), NONE);
            for (int what : new int[] {-1, 2, LOW, HIGH}) {
                CHECK.due("fault(" + what + ")", x.fault(what), BAD_VALUE);
            }
            CHECK.due("load()", x.load(), 1);
        }
    }
}
