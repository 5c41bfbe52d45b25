import java.util.function.ToIntFunction;

/** The edges of the rules in the document's description, a method for each sentence that names one: THE TEXT and CHANGES. */
public final class TextAndChangesEdgeTest {
    private static final int BAD = ChoirBook.BAD, STATE = ChoirBook.STATE, FULL = ChoirBook.FULL, NONE = ChoirBook.NONE;
    private static final String BLANKS = " ".repeat(60);
    private static final Check CHECK = new Check("TextAndChangesEdgeTest");

    public static void main(String[] args) {
        theText();
        asTests();
        asAnAttendance();
        numbers();
        faults();
        faultsAtTheEndOf60Bytes();
        changes();
        CHECK.end();
    }

    private static void due(String call, long got, long want) {
        CHECK.due(call, got, want);
    }

    /** Singers whom nothing is known of. */
    private static ChoirBook choir(int singers) {
        ChoirBook book = new ChoirBook();
        for (int i = 0; i < singers; i++) {
            book.add(5, 170);
        }
        return book;
    }

    /** The notes that can be sung then, lowest to highest, as a text of 41 signs: 1, 0, or . if not tested. */
    private static void learns(String text, String notes) {
        ChoirBook book = choir(1);
        Check.text(book, text);
        CHECK.dueTrue("'" + text + "' has no fault", book.test(0) >= 0);
        for (int note = 0; note <= 40; note++) {
            char c = note < notes.length() ? notes.charAt(note) : '.';
            due("'" + text + "': note " + note, book.note(0, note), c == '1' ? 1 : c == '0' ? 0 : NONE);
        }
        due("'" + text + "': fault", book.fault(0), NONE);
    }

    private static void testFails(String text, int kind, int place) {
        ChoirBook book = choir(1);
        Check.text(book, text);
        fails("tests", text, book, book.test(0), kind, place);
    }

    private static void attendanceFails(int singers, String text, int kind, int place) {
        ChoirBook book = choir(singers);
        Check.text(book, text);
        fails("attendance", text, book, book.attendance(), kind, place);
    }

    private static void fails(String as, String text, ChoirBook book, int answer, int kind, int place) {
        due(as + " '" + text + "'", answer, STATE);
        due(as + " '" + text + "': kind", book.fault(0), kind);
        due(as + " '" + text + "': place", book.fault(1), place);
    }

    private static void absentAre(int singers, String text, int... due) {
        ChoirBook book = choir(singers);
        Check.text(book, text);
        due("attendance '" + text + "'", book.attendance(), due.length);
        for (int singer = 0; singer < singers; singer++) {
            int present = 1;
            for (int one : due) {
                present = one == singer ? 0 : present;
            }
            due("attendance '" + text + "': singer " + singer, book.singer(singer, 6), present);
        }
        due("attendance '" + text + "': fault", book.fault(0), NONE);
    }

    // ---- THE TEXT

    private static void theText() {
        atMost60Bytes();
        codesFrom32To126();
        emptyAtFirst();
    }

    // "The text has at most 60 bytes"
    private static void atMost60Bytes() {
        ChoirBook book = choir(1);
        for (int length = 1; length <= 60; length++) {
            due("byte " + length, book.write(length == 60 ? '7' : ' '), length);
        }
        due("byte 61", book.write('x'), FULL);
        due("bytes", book.told(7), 60);
        due("byte 60 counts, and 61 does not", book.test(0), 1);
        due("which is 7", book.note(0, 7), 1);
        due("wipe", book.wipe(), 60);
        due("byte 1 again", book.write('8'), 1);
        due("nothing is left of the others", book.test(0), 2);
        due("which are 7 and 8", book.singer(0, 3), 8);
    }

    // "with codes from 32 to 126"
    private static void codesFrom32To126() {
        ChoirBook book = choir(1);
        due("code 31", book.write(31), BAD);
        due("code 127", book.write(127), BAD);
        due("code 0", book.write(0), BAD);
        due("code 10", book.write(10), BAD);
        due("bytes", book.told(7), 0);
        due("code 32", book.write(32), 1);
        due("code 126", book.write(126), 2);
        for (int code = 33; code <= 47; code++) {
            due("code " + code, book.write(code), code - 30);
        }
        due("as tests", book.test(0), STATE);
        due("the byte 126 cannot stand there", book.fault(1), 1);
    }

    // "and is empty at first"
    private static void emptyAtFirst() {
        ChoirBook book = new ChoirBook();
        due("bytes", book.told(7), 0);
        due("wipe", book.wipe(), 0);
        due("attendance", book.attendance(), 0);
        book.add(5, 170);
        due("test", book.test(0), 0);
        due("no fault", book.fault(0), NONE);
    }

    private static void asTests() {
        blanksBetweenNotes();
        blanksAroundNotes();
        aNoteFrom0To40();
        allFromOneNoteToAnother();
        notesThatCannotBeSung();
        noNoteAtAll();
    }

    // "one or more blanks between two of them"
    private static void blanksBetweenNotes() {
        learns("1 3", ".1.1");
        learns("1   3", ".1.1");
        learns("1! 3!", ".0.0");
        learns("0-1 3-4", "11.11");
        testFails("1!3", 1, 2);
        testFails("1!3!", 1, 2);
        testFails("0-1-3", 1, 3);
        testFails("1,3", 1, 1);
    }

    // "and blanks as one likes at the beginning and at the end"
    private static void blanksAroundNotes() {
        learns("2", "..1");
        learns(" 2", "..1");
        learns("2 ", "..1");
        learns("    2    ", "..1");
        learns("  2!  ", "..0");
        learns(" 2-3 ", "..11");
    }

    // "a number from 0 to 40"
    private static void aNoteFrom0To40() {
        learns("0", "1");
        learns("40", ".".repeat(40) + "1");
        testFails("41", 2, 0);
        testFails("99", 2, 0);
    }

    // "or two of them with the sign - between (all from the first to the second one, which is not less)"
    private static void allFromOneNoteToAnother() {
        learns("2-4", "..111");
        learns("2-3", "..11");
        learns("2-2", "..1");
        learns("0-0", "1");
        learns("40-40", ".".repeat(40) + "1");
        learns("0-40", "1".repeat(41));
        testFails("2-1", 2, 2);
        testFails("40-39", 2, 3);
        testFails("0-41", 2, 2);
        testFails("41-41", 2, 0);
    }

    // "each perhaps with the sign ! behind it (they cannot be sung)"
    private static void notesThatCannotBeSung() {
        learns("2!", "..0");
        learns("2-4!", "..000");
        learns("0-40!", "0".repeat(41));
        learns("0-3 1-2!", "1001");
        learns("1-2! 0-3", "1111");
        testFails("2!!", 1, 2);
        testFails("2 !", 1, 2);
        testFails("2!-4", 1, 2);
        testFails("!2", 1, 0);
        testFails("2-!4", 1, 2);
        testFails("2-4!!", 1, 4);
    }

    // "there can be no word at all"
    private static void noNoteAtAll() {
        learns("", "");
        learns(" ", "");
        learns(BLANKS, "");
    }

    private static void asAnAttendance() {
        blanksAmongSingers();
        noSingerAtAllOrTheSameAgain();
        aSingerWhoDoesNotExist();
        aRemovedSingerDoesNotExist();
        theSignsOfTestsCannotStandBehindTests();
    }

    // "the numbers of absent singers, with one or more blanks between two of them, and blanks likewise"
    private static void blanksAmongSingers() {
        absentAre(3, "1", 1);
        absentAre(3, "0 2", 0, 2);
        absentAre(3, "2    0", 0, 2);
        absentAre(3, "   1   ", 1);
        absentAre(10, "9 8 7 6 5 4 3 2 1 0", 0, 1, 2, 3, 4, 5, 6, 7, 8, 9);
        attendanceFails(3, "1-2", 1, 1);
        attendanceFails(3, "1!", 1, 1);
        attendanceFails(3, "1,2", 1, 1);
        attendanceFails(3, "0 -", 1, 2);
    }

    // "there can be no word at all, and in an attendance the same number again"
    private static void noSingerAtAllOrTheSameAgain() {
        absentAre(0, "");
        absentAre(0, BLANKS);
        absentAre(3, "");
        absentAre(3, "     ");
        absentAre(3, "1 1", 1);
        absentAre(3, "1 0 1 01 1", 0, 1);
    }

    // "the number of a singer who does not exist"
    private static void aSingerWhoDoesNotExist() {
        absentAre(1, "0", 0);
        attendanceFails(0, "0", 2, 0);
        attendanceFails(1, "1", 2, 0);
        attendanceFails(3, "3", 2, 0);
        attendanceFails(9, "8 9", 2, 2);
        attendanceFails(10, "9 10", 2, 2);
        attendanceFails(10, "40", 2, 0);
        attendanceFails(10, "99", 2, 0);
    }

    private static void aRemovedSingerDoesNotExist() {
        ChoirBook book = choir(3);
        Check.text(book, "2");
        due("2 of three", book.attendance(), 1);
        book.remove(0);
        due("2 of two", book.attendance(), STATE);
        due("kind", book.fault(0), 2);
        due("who was absent still is", book.singer(1, 6), 0);
        book.add(5, 170);
        due("2 of three again", book.attendance(), 1);
        due("who was absent is present", book.singer(1, 6), 1);
    }

    private static void theSignsOfTestsCannotStandBehindTests() {
        ChoirBook book = choir(2);
        Check.text(book, "0-1!");
        due("as tests", book.test(0), 0);
        due("as an attendance", book.attendance(), STATE);
        due("kind", book.fault(0), 1);
        due("place", book.fault(1), 1);
        due("as tests again", book.test(1), 0);
        Check.text(book, "1!");
        due("the other sign", book.attendance(), STATE);
        due("its place", book.fault(1), 1);
        Check.text(book, "1");
        due("behind a fault", book.attendance(), 1);
        due("as tests at last", book.test(0), 1);
        due("which are notes", book.note(0, 1), 1);
    }

    // "Numbers have 1 or 2 digits"
    private static void numbers() {
        learns("5", ".....1");
        learns("05", ".....1");
        learns("00", "1");
        learns("01-02!", ".00");
        learns("1-02", ".11");
        testFails("005", 1, 2);
        testFails("000", 1, 2);
        testFails("1-002", 1, 4);
        absentAre(3, "02 00", 0, 2);
        attendanceFails(3, "002", 1, 2);
    }

    private static void faults() {
        aByteThatCannotStandThere();
        aNumberOutOfItsRange();
        theEndWithinAWord();
        theFirstFaultCounts();
        nothingIsTakenOfAFaultyText();
    }

    // "1 a byte that cannot stand at its place (also a digit too many, whatever those before it are)"
    private static void aByteThatCannotStandThere() {
        testFails("x", 1, 0);
        testFails(" -", 1, 1);
        testFails("5x", 1, 1);
        testFails("5-x", 1, 2);
        testFails("5- 6", 1, 2);
        testFails("5--6", 1, 2);
        testFails("5-6x", 1, 3);
        testFails("5!x", 1, 2);
        testFails("401", 1, 2);
        testFails("410", 1, 2);
        testFails("999", 1, 2);
        testFails("9999", 1, 2);
        testFails("10-099", 1, 5);
        testFails("10-990", 1, 5);
        attendanceFails(3, "100", 1, 2);
        attendanceFails(3, "000", 1, 2);
        attendanceFails(0, "000", 1, 2);
    }

    // "2 ... (the place of its first digit; found at the byte behind it, ahead of what that byte is, or at the end)"
    private static void aNumberOutOfItsRange() {
        testFails("1 41", 2, 2);
        testFails("1 41 ", 2, 2);
        testFails("1 41x", 2, 2);
        testFails("1 41!", 2, 2);
        testFails("1 41-", 2, 2);
        testFails("1 41-50", 2, 2);
        testFails("30-29", 2, 3);
        testFails("30-29 ", 2, 3);
        testFails("30-29x", 2, 3);
        testFails("30-29-", 2, 3);
        testFails("30-29!", 2, 3);
        testFails("30-4", 2, 3);
        testFails("30-4 0", 2, 3);
        testFails("30-41", 2, 3);
        learns("3-30 9", "...1111111111111111111111111111");
        attendanceFails(3, "  03  ", 2, 2);
        attendanceFails(3, "3x", 2, 0);
        attendanceFails(3, "3-", 2, 0);
        attendanceFails(3, "3!", 2, 0);
    }

    // "3 the end of the text within a word (the length of the text)"
    private static void theEndWithinAWord() {
        testFails("5-", 3, 2);
        testFails("05-", 3, 3);
        testFails("1 2! 3-", 3, 7);
    }

    // "The text is read from left to right, and the first fault counts."
    private static void theFirstFaultCounts() {
        testFails("1x 41 5-", 1, 1);
        testFails("41 1x 5-", 2, 0);
        testFails("5 3-2 x 111", 2, 4);
        testFails("1 ! 41", 1, 2);
        attendanceFails(3, "0 x 5", 1, 2);
        attendanceFails(3, "0 5 x", 2, 2);
    }

    private static void nothingIsTakenOfAFaultyText() {
        ChoirBook book = choir(2);
        Check.text(book, "1-5 7! 9 5-");
        due("tests", book.test(0), STATE);
        for (int note = 0; note <= 40; note++) {
            due("nothing of note " + note, book.note(0, note), NONE);
        }
        Check.text(book, "0 1 x");
        due("attendance", book.attendance(), STATE);
        due("nobody is absent", book.told(3), 0);
        due("neither is a change", book.told(8), 2);
    }

    private static void faultsAtTheEndOf60Bytes() {
        testFails(BLANKS.substring(1) + "x", 1, 59);
        testFails(BLANKS.substring(1) + "-", 1, 59);
        testFails(BLANKS.substring(2) + "5-", 3, 60);
        testFails(BLANKS.substring(2) + "41", 2, 58);
        testFails(BLANKS.substring(3) + "111", 1, 59);
        testFails(BLANKS.substring(3) + "5-4", 2, 59);
        learns(BLANKS.substring(1) + "3", "...1");
        learns(BLANKS.substring(2) + "3!", "...0");
        learns(BLANKS.substring(3) + "2-3", "..11");
        learns("3" + BLANKS.substring(1), "...1");
        absentAre(2, BLANKS.substring(1) + "1", 1);
        attendanceFails(2, BLANKS.substring(1) + "2", 2, 59);
        // As many words as there is room for.
        absentAre(2, "0 ".repeat(30), 0);
        learns("0 1!".repeat(1) + " 3".repeat(28), "10.1");
    }

    // ---- CHANGES

    private static void changes() {
        eachChangeIsRecorded();
        alsoIfItChangesNothing();
        atMostEightStates();
        theOldestIsDropped();
        theRingGoesRoundOften();
        undoneAndChangedAgain();
        undoRestoresEverything();
        undoKeepsTextFaultAndImages();
        imagesKeepNoHistory();
        undoIsNoChange();
    }

    private static void isChange(String call, ToIntFunction<ChoirBook> change, int answer) {
        ChoirBook book = new ChoirBook();
        Check.join(book, 5, 170, "0-40");
        book.keep(0);
        Check.text(book, "0");
        int before = book.told(8);
        due(call, change.applyAsInt(book), answer);
        due(call + " is recorded", book.told(8), before + 1);
        due(call + " can be undone", book.undo(), before);
        due(call + " is undone: singers", book.told(0), 1);
        due(call + " is undone: notes", book.singer(0, 3), 40);
        due(call + " is undone: part", book.singer(0, 5), NONE);
        due(call + " is undone: presence", book.singer(0, 6), 1);
        due(call + " is undone: rehearsals", book.told(2), 0);
        due(call + " is undone: setting", book.setting(0), 12);
    }

    // "a change that returns no error code records everything before it"
    private static void eachChangeIsRecorded() {
        isChange("add", b -> b.add(5, 170), 1);
        isChange("remove", b -> b.remove(0), 0);
        isChange("set", b -> b.set(0, 3), 12);
        isChange("test", b -> b.test(0), 41);
        isChange("place", b -> b.place(0, 1), NONE);
        isChange("placeAll", ChoirBook::placeAll, 0);
        isChange("attendance", ChoirBook::attendance, 1);
        isChange("hold", ChoirBook::hold, 0);
        isChange("back", b -> b.back(0), 1);
    }

    // "Some methods are called changes below (also if they change nothing)."
    private static void alsoIfItChangesNothing() {
        isChange("set to what it is", b -> b.set(0, 12), 12);
        isChange("test of what is known", b -> b.test(0), 41);
        isChange("place in none again", b -> b.place(0, NONE), NONE);
        isChange("back to the same", b -> b.back(0), 1);
        ChoirBook book = new ChoirBook();
        due("placeAll of nobody", book.placeAll(), 0);
        due("attendance of nobody", book.attendance(), 0);
        due("both are changes", book.told(8), 2);
        book.add(5, 170);
        due("a test without a word", book.test(0), 0);
        due("an attendance without a word", book.attendance(), 0);
        due("placeAll of one whom nothing fits", book.placeAll(), 0);
        due("all are changes", book.told(8), 6);
        book.keep(1);
        book.back(1);
        book.back(1);
        due("and the same image twice", book.told(8), 8);
    }

    // "A history of at most 8 states is kept"
    private static void atMostEightStates() {
        for (int made = 1; made <= 10; made++) {
            ChoirBook book = new ChoirBook();
            for (int change = 1; change <= made; change++) {
                book.set(1, 10 + change);
                due("states behind " + change + " changes", book.told(8), Math.min(change, 8));
            }
            int left = Math.min(made, 8);
            for (int undone = 1; undone <= left; undone++) {
                due(made + " changes: undo " + undone, book.undo(), left - undone);
                int setting = made - undone == 0 ? 5 : 10 + made - undone;
                due(made + " changes: setting behind undo " + undone, book.setting(1), setting);
            }
            due(made + " changes: undo of none", book.undo(), STATE);
            due(made + " changes: no state", book.told(8), 0);
        }
    }

    // "if there are more than 8, the oldest one is dropped"
    private static void theOldestIsDropped() {
        ChoirBook book = new ChoirBook();
        for (int i = 0; i < 9; i++) {
            book.add(1 + i, 100);
        }
        for (int left = 7; left >= 0; left--) {
            due("undo", book.undo(), left);
        }
        due("the ninth undo", book.undo(), STATE);
        due("the first one stays", book.told(0), 1);
        due("who that is", book.singer(0, 0), 1);
    }

    private static void theRingGoesRoundOften() {
        ChoirBook book = new ChoirBook();
        for (int change = 0; change < 100; change++) {
            book.set(1, 1 + change % 50);
        }
        for (int step = 1; step <= 8; step++) {
            due("undo " + step, book.undo(), 8 - step);
            due("setting behind undo " + step, book.setting(1), 50 - step);
        }
        due("no more", book.undo(), STATE);
        for (int round = 0; round < 30; round++) {
            book.set(1, 20);
            book.set(1, 21);
            due("round " + round, book.undo(), Math.min(round + 1, 7));
            due("round " + round + ": setting", book.setting(1), 20);
        }
    }

    private static void undoneAndChangedAgain() {
        ChoirBook book = new ChoirBook();
        for (int value = 11; value <= 18; value++) {
            book.set(1, value);
        }
        book.undo();
        book.undo();
        book.undo();
        due("undone to 15", book.setting(1), 15);
        book.set(1, 30);
        due("states", book.told(8), 6);
        due("undo the new one", book.undo(), 5);
        due("15 again", book.setting(1), 15);
        due("undo an old one", book.undo(), 4);
        due("14", book.setting(1), 14);
    }

    // "undo() removes the latest state and restores it"
    private static void undoRestoresEverything() {
        ChoirBook book = new ChoirBook();
        Check.joinPart(book, 5, 180, 1);
        Check.joinPart(book, 6, 160, 1);
        book.set(2, 4);
        book.hold();
        Check.absent(book, "1");
        int[][] singers = {{5, 180, 0, 40, 15, 1, 1, 0, NONE, 1}, {6, 160, 0, 40, 15, 1, 0, 1, 0, 0}};
        Check.absent(book, "");
        book.set(2, 0);
        book.hold();
        Check.text(book, "3-30!");
        book.test(1);
        book.placeAll();
        book.set(0, 1);
        book.remove(0);
        for (int left = 7; left >= 1; left--) {
            due("undo", book.undo(), left);
        }
        for (int singer = 0; singer < 2; singer++) {
            for (int what = 0; what < 10; what++) {
                due("singer(" + singer + ", " + what + ")", book.singer(singer, what), singers[singer][what]);
            }
        }
        due("note", book.note(1, 20), 1);
        due("rehearsals", book.told(2), 1);
        due("solos", book.told(5), 1);
        due("stand-ins", book.told(6), 1);
        due("weak for the soprano", book.part(0, 3), 0);
        due("weak for the tenor", book.part(2, 3), 1);
        due("the solo of 0", book.solo(0, 1), 1);
        due("no rehearsal 1", book.solo(1, 1), BAD);
        due("the setting 0", book.setting(0), 12);
        due("the setting 2", book.setting(2), 4);
        undoRestoresWhoHadSolos();
    }

    private static void undoRestoresWhoHadSolos() {
        ChoirBook book = new ChoirBook();
        Check.joinPart(book, 5, 1);
        Check.joinPart(book, 5, 1);
        book.set(1, 50);
        book.hold();
        book.hold();
        due("0, then 1", book.solo(0, 1) * 10 + book.solo(1, 1), 1);
        // Two rehearsals are kept in an image and undone, and another one is held instead.
        book.keep(0);
        book.undo();
        book.undo();
        Check.absent(book, "0");
        book.hold();
        due("1 alone", book.solo(0, 1), 1);
        book.back(0);
        due("0 in the image", book.solo(0, 1), 0);
        due("1 in the image", book.solo(1, 1), 1);
        book.undo();
        due("1 alone again", book.solo(0, 1), 1);
        due("one rehearsal", book.solo(1, 1), BAD);
    }

    // "records everything before it, except the text, the latest fault and the images"
    private static void undoKeepsTextFaultAndImages() {
        ChoirBook book = new ChoirBook();
        book.add(5, 170);
        book.keep(0);
        Check.text(book, "7 8");
        book.test(0);
        book.keep(0);
        book.keep(1);
        Check.text(book, "7 8 9x");
        due("a fault", book.test(0), STATE);
        due("undo", book.undo(), 1);
        due("the text stays", book.told(7), 6);
        due("the kind stays", book.fault(0), 1);
        due("the place stays", book.fault(1), 5);
        due("undo", book.undo(), 0);
        due("the image 0 stays", book.back(0), 1);
        due("as it was kept last", book.singer(0, 3), 8);
        due("the image 1 stays", book.back(1), 1);
        due("both were changes", book.told(8), 2);
        due("the text still", book.wipe(), 6);
    }

    private static void imagesKeepNoHistory() {
        ChoirBook book = new ChoirBook();
        book.add(5, 170);
        book.add(6, 170);
        book.keep(0);
        book.undo();
        book.undo();
        due("nothing can be undone", book.told(8), 0);
        due("back", book.back(0), 2);
        due("that can be undone alone", book.told(8), 1);
        due("undo", book.undo(), 0);
        due("nobody", book.told(0), 0);
        due("no more", book.undo(), STATE);
    }

    private static void undoIsNoChange() {
        ChoirBook book = new ChoirBook();
        book.set(1, 6);
        book.set(1, 7);
        due("undo", book.undo(), 1);
        due("undo the one before, not undo()", book.undo(), 0);
        due("setting", book.setting(1), 5);
        due("undo", book.undo(), STATE);
    }
}
