/** Promises 11 to 13, and how a text is read (promises 5 and 8). */
public final class TextTest {
    private static final int BAD = ChoirBook.BAD, STATE = ChoirBook.STATE, FULL = ChoirBook.FULL, NONE = ChoirBook.NONE;
    private static final Check CHECK = new Check("TextTest");

    public static void main(String[] args) {
        promise11Write();
        promise12Wipe();
        promise13Fault();
        testsWithoutFault();
        testsWithAFault();
        attendancesWithoutFault();
        attendancesWithAFault();
        everyByteAtEveryPlace();
        CHECK.end();
    }

    private static void due(String call, long got, long want) {
        CHECK.due(call, got, want);
    }

    private static void promise11Write() {
        ChoirBook book = new ChoirBook();
        due("write(31)", book.write(31), BAD);
        due("write(127)", book.write(127), BAD);
        due("write(-1)", book.write(-1), BAD);
        due("write(32 + 256)", book.write(32 + 256), BAD);
        due("told(7)", book.told(7), 0);
        due("write(32)", book.write(32), 1);
        due("write(126)", book.write(126), 2);
        for (int length = 3; length <= 60; length++) {
            due("write to " + length, book.write(' '), length);
        }
        due("write to 61", book.write(' '), FULL);
        due("BAD comes before FULL", book.write(127), BAD);
        due("told(7) of 60", book.told(7), 60);
        due("no change", book.told(8), 0);
        book.add(5, 170);
        book.test(0);
        due("the bytes stay: kind", book.fault(0), 1);
        due("the bytes stay: place", book.fault(1), 1);
        Check.text(book, "0-2 4-6 8-10 12-14 16-18 20-22 24-26 28-30 32-34 36-38 39-40");
        due("60 bytes can be read", book.test(0), 5);
        due("all of them", book.note(0, 40), 1);
    }

    private static void promise12Wipe() {
        ChoirBook book = new ChoirBook();
        due("wipe of nothing", book.wipe(), 0);
        Check.text(book, "12 13");
        due("wipe", book.wipe(), 5);
        due("told(7)", book.told(7), 0);
        due("wipe again", book.wipe(), 0);
        due("write behind it", book.write('7'), 1);
        book.add(5, 170);
        due("only the new byte", book.test(0), 1);
        due("which is 7", book.singer(0, 2), 7);
    }

    private static void promise13Fault() {
        ChoirBook book = new ChoirBook();
        due("fault(-1)", book.fault(-1), BAD);
        due("fault(2)", book.fault(2), BAD);
        due("fault(0) of none", book.fault(0), NONE);
        due("fault(1) of none", book.fault(1), NONE);
        book.add(5, 170);
        Check.text(book, "3 4x");
        due("test", book.test(0), STATE);
        due("kind", book.fault(0), 1);
        due("place", book.fault(1), 3);
        Check.text(book, "3 4");
        due("test without fault", book.test(0), 2);
        book.set(0, 3);
        book.undo();
        book.hold();
        due("kind, behind other calls", book.fault(0), 1);
        due("place, behind other calls", book.fault(1), 3);
        due("an attendance finds another", book.attendance(), STATE);
        due("its kind", book.fault(0), 2);
        due("its place", book.fault(1), 0);
        due("fault(2) then", book.fault(2), BAD);
    }

    private static ChoirBook choir(int singers) {
        ChoirBook book = new ChoirBook();
        for (int i = 0; i < singers; i++) {
            book.add(5, 170);
        }
        return book;
    }

    private static void testIs(String text, int range) {
        ChoirBook book = choir(1);
        Check.text(book, text);
        due("tests '" + text + "'", book.test(0), range);
        due("no fault in tests '" + text + "'", book.fault(0), NONE);
    }

    private static void testFails(String text, int kind, int place) {
        ChoirBook book = choir(1);
        Check.text(book, text);
        due("tests '" + text + "'", book.test(0), STATE);
        due("kind in tests '" + text + "'", book.fault(0), kind);
        due("place in tests '" + text + "'", book.fault(1), place);
        due("nothing learnt from '" + text + "'", book.told(8), 1);
    }

    private static void attendanceIs(String text, int absent) {
        ChoirBook book = choir(10);
        Check.text(book, text);
        due("attendance '" + text + "'", book.attendance(), absent);
        due("no fault in attendance '" + text + "'", book.fault(0), NONE);
    }

    private static void attendanceFails(int singers, String text, int kind, int place) {
        ChoirBook book = choir(singers);
        // Tests that were read before do not let the signs of tests stand in an attendance.
        book.test(0);
        Check.text(book, text);
        due("attendance '" + text + "'", book.attendance(), STATE);
        due("kind in attendance '" + text + "'", book.fault(0), kind);
        due("place in attendance '" + text + "'", book.fault(1), place);
        due("nobody is absent by '" + text + "'", book.told(3), 0);
    }

    private static void testsWithoutFault() {
        testIs("", 0);
        testIs(" ", 0);
        testIs("     ", 0);
        testIs("0", 1);
        testIs("40", 1);
        testIs("00", 1);
        testIs("09 10", 2);
        testIs(" 3-5", 3);
        testIs("3-5 ", 3);
        testIs("3-5!", 0);
        testIs("3! ", 0);
        testIs("0-40", 41);
        testIs("0-40 20!", 20);
        testIs("7-7", 1);
        testIs("07-8", 2);
        testIs("1   2", 2);
        testIs("1-2! 1-3", 3);
        testIs("1-3 2! 5-6", 2);
    }

    private static void testsWithAFault() {
        testFails("x", 1, 0);
        testFails("!", 1, 0);
        testFails("-", 1, 0);
        testFails(" -5", 1, 1);
        testFails("5,6", 1, 1);
        testFails("5/", 1, 1);
        testFails("5:", 1, 1);
        testFails("100", 1, 2);
        testFails("007", 1, 2);
        testFails("999", 1, 2);
        testFails("412 x", 1, 2);
        testFails("5-123", 1, 4);
        testFails("5-003", 1, 4);
        testFails("1 99 x", 2, 2);
        testFails("41", 2, 0);
        testFails("99", 2, 0);
        testFails("41x", 2, 0);
        testFails("41-", 2, 0);
        testFails("41-x", 2, 0);
        testFails("41!", 2, 0);
        testFails(" 41 x", 2, 1);
        testFails("3-41", 2, 2);
        testFails("3-41x", 2, 2);
        testFails("10-9", 2, 3);
        testFails("10-9-", 2, 3);
        testFails("10-9!", 2, 3);
        testFails("10-9 x", 2, 3);
        testFails("10-09", 2, 3);
        testFails("5-", 3, 2);
        testFails("1 5-", 3, 4);
        testFails("5--6", 1, 2);
        testFails("5- 6", 1, 2);
        testFails("5-!", 1, 2);
        testFails("5-6-7", 1, 3);
        testFails("5!!", 1, 2);
        testFails("5!-7", 1, 2);
        testFails("5!6", 1, 2);
        testFails("5 !", 1, 2);
        testFails("5 -6", 1, 2);
        testFails("5 6 7x 99", 1, 5);
        testFails("3-41-", 2, 2);
    }

    private static void attendancesWithoutFault() {
        attendanceIs("", 0);
        attendanceIs("   ", 0);
        attendanceIs("0", 1);
        attendanceIs("9 8 7 6 5 4 3 2 1 0", 10);
        attendanceIs("09 00 9 0", 2);
        attendanceIs("  3   4  ", 2);
    }

    private static void attendancesWithAFault() {
        attendanceFails(0, "0", 2, 0);
        attendanceFails(0, "x", 1, 0);
        attendanceFails(0, "000", 1, 2);
        attendanceFails(3, "3", 2, 0);
        attendanceFails(3, "0 1 3", 2, 4);
        attendanceFails(3, "2 03 x", 2, 2);
        attendanceFails(3, "3x", 2, 0);
        attendanceFails(3, "3-", 2, 0);
        attendanceFails(3, "2x", 1, 1);
        attendanceFails(3, "2-", 1, 1);
        attendanceFails(3, "0-2", 1, 1);
        attendanceFails(3, "2!", 1, 1);
        attendanceFails(3, "-", 1, 0);
        attendanceFails(3, " !", 1, 1);
        attendanceFails(3, "001", 1, 2);
        attendanceFails(3, "333", 1, 2);
        attendanceFails(10, "10", 2, 0);
        attendanceFails(10, "1 40", 2, 2);
        attendanceFails(10, "100", 1, 2);
    }

    private static void everyByteAtEveryPlace() {
        for (int code = 32; code <= 126; code++) {
            char c = (char) code;
            boolean digit = c >= '0' && c <= '9';
            byteFollows("", c, digit || c == ' ' ? 0 : 1);
            byteFollows("3", c, digit || c == ' ' || c == '!' ? 0 : c == '-' ? 3 : 1);
            byteFollows("30", c, c == ' ' || c == '!' ? 0 : c == '-' ? 3 : 1);
            byteFollows("3-", c, c >= '3' && c <= '9' ? 0 : digit ? 2 : 1);
            byteFollows("3-4", c, c == '0' || c == ' ' || c == '!' ? 0 : digit ? 2 : 1);
            byteFollows("3-40", c, c == ' ' || c == '!' ? 0 : 1);
            byteFollows("3!", c, c == ' ' ? 0 : 1);
        }
    }

    private static void byteFollows(String before, char c, int kind) {
        ChoirBook book = choir(1);
        Check.text(book, before + c);
        book.test(0);
        int found = before.equals("3") && c > '0' && c <= '9' ? 0 : book.fault(0);
        due("kind in tests '" + before + c + "'", Math.max(0, found), kind);
    }
}
