/**
 * The edges that the promises themselves name, promise by promise: the ends of every argument, what is
 * empty, what is full, and each error code. (That a refused call changes nothing: RefusedTest.)
 */
public final class PromisesEdgeTest {
    private static final int BAD = ChoirBook.BAD, STATE = ChoirBook.STATE, FULL = ChoirBook.FULL, NONE = ChoirBook.NONE;
    private static final Check CHECK = new Check("PromisesEdgeTest");

    public static void main(String[] args) {
        promise1();
        promise2();
        promise3();
        promise4();
        promise5();
        promise6();
        promise7();
        promise8();
        promise9();
        promise10();
        promise11();
        promise12();
        promise13();
        promise14();
        promise15();
        promise16();
        promise17();
        promise18();
        promise19();
        promise20();
        promise21();
        promise22();
        promise23();
        promise24();
        promise25();
        promise26();
        promise27();
        CHECK.end();
    }

    private static void due(String call, long got, long want) {
        CHECK.due(call, got, want);
    }

    private static ChoirBook choir(int singers) {
        ChoirBook book = new ChoirBook();
        for (int i = 0; i < singers; i++) {
            book.add(5, 170);
        }
        return book;
    }

    /** Singers of strength 5 whom every part fits, each in a part. */
    private static ChoirBook placed(int... parts) {
        ChoirBook book = new ChoirBook();
        for (int part : parts) {
            Check.joinPart(book, 5, part);
        }
        return book;
    }

    // "Creates a book without singers; the text is empty, there was no fault, the images keep nothing, and nothing can be undone."
    private static void promise1() {
        ChoirBook book = new ChoirBook();
        due("singers", book.told(0), 0);
        due("the first singer", book.singer(0, 0), BAD);
        due("the text", book.told(7), 0);
        due("the kind of no fault", book.fault(0), NONE);
        due("the place of no fault", book.fault(1), NONE);
        due("the image 0", book.back(0), STATE);
        due("the image 1", book.back(1), STATE);
        due("changes", book.told(8), 0);
        due("undo", book.undo(), STATE);
        twoBooksKnowNothingOfEachOther();
    }

    private static void twoBooksKnowNothingOfEachOther() {
        ChoirBook one = placed(0, 0);
        one.hold();
        one.keep(0);
        one.set(3, 6);
        Check.text(one, "x");
        one.attendance();
        ChoirBook other = new ChoirBook();
        for (int what = 0; what <= 8; what++) {
            due("of another book: told(" + what + ")", other.told(what), 0);
        }
        due("of another book: fault(0)", other.fault(0), NONE);
        due("of another book: back(0)", other.back(0), STATE);
        due("of another book: setting(3)", other.setting(3), 4);
        due("the first book has its own", one.told(0), 2);
    }

    // "Adds a singer, without tests, placed in no part, present." "BAD if an argument is out of range; FULL if there are 10."
    private static void promise2() {
        ChoirBook book = new ChoirBook();
        int[][] out = {{0, 100}, {10, 100}, {1, 99}, {1, 221}, {-1, 100}, {1, -100}, {100, 5}};
        for (int[] one : out) {
            due("add(" + one[0] + ", " + one[1] + ")", book.add(one[0], one[1]), BAD);
        }
        int[][] ends = {{1, 100}, {1, 220}, {9, 100}, {9, 220}};
        for (int i = 0; i < 4; i++) {
            due("add(" + ends[i][0] + ", " + ends[i][1] + ")", book.add(ends[i][0], ends[i][1]), i);
        }
        for (int note = 0; note <= 40; note++) {
            due("without tests: note " + note, book.note(3, note), NONE);
        }
        due("placed in no part", book.singer(3, 5), NONE);
        due("present", book.singer(3, 6), 1);
        while (book.told(0) < 10) {
            due("one more", book.add(5, 170), book.told(0) - 1);
        }
        due("the eleventh", book.add(5, 170), FULL);
        due("remove", book.remove(5), 9);
        due("the tenth again", book.add(5, 170), 9);
        anAddedSingerIsPresentThoughAnotherWasNot();
        anAddedSingerHasNothingOfOneWhoIsGone();
    }

    private static void anAddedSingerIsPresentThoughAnotherWasNot() {
        ChoirBook book = choir(10);
        Check.absent(book, "9");
        book.remove(9);
        due("the new tenth", book.add(5, 170), 9);
        due("is present", book.singer(9, 6), 1);
        book.undo();
        book.undo();
        due("the old one is not", book.singer(9, 6), 0);
    }

    private static void anAddedSingerHasNothingOfOneWhoIsGone() {
        ChoirBook book = placed(1, 1);
        book.hold();
        Check.absent(book, "0");
        book.hold();
        due("0 stood in", book.singer(0, 9), 1);
        due("1 had a solo", book.singer(1, 7), 1);
        book.remove(1);
        book.remove(0);
        book.add(3, 120);
        book.add(4, 130);
        int[][] fresh = {{3, 120, NONE, NONE, 0, NONE, 1, 0, NONE, 0}, {4, 130, NONE, NONE, 0, NONE, 1, 0, NONE, 0}};
        for (int singer = 0; singer < 2; singer++) {
            for (int what = 0; what < 10; what++) {
                due("in the place of another: singer(" + singer + ", " + what + ")", book.singer(singer, what), fresh[singer][what]);
            }
            due("in the place of another: note", book.note(singer, 20), NONE);
        }
    }

    // "Removes a singer. What was counted of rehearsals stays." "BAD if there is no such singer."
    private static void promise3() {
        ChoirBook book = new ChoirBook();
        due("of none", book.remove(0), BAD);
        book.add(5, 170);
        due("remove(-1)", book.remove(-1), BAD);
        due("remove(1) of one", book.remove(1), BAD);
        due("remove(0) of one", book.remove(0), 0);
        due("again", book.remove(0), BAD);
        book = choir(10);
        due("remove(10) of ten", book.remove(10), BAD);
        for (int left = 9; left >= 0; left--) {
            due("remove(" + left + ")", book.remove(left), left);
        }
        book = placed(1, 1);
        book.hold();
        book.remove(1);
        book.remove(0);
        int[] told = {0, 0, 1, 0, 0, 1, 1};
        for (int what = 0; what < told.length; what++) {
            due("counted: told(" + what + ")", book.told(what), told[what]);
        }
        due("weak for the tenor", book.part(2, 3), 1);
        due("the solo of one who is gone", book.solo(0, 1), 1);
    }

    // "singers stay where they are placed, also if the part does not fit any more" "BAD if there is no such setting or the value is out of its range"
    private static void promise4() {
        ChoirBook book = new ChoirBook();
        Check.join(book, 5, 170, "22-33");
        book.place(0, 0);
        due("set(0, 13)", book.set(0, 13), 12);
        due("no part fits", book.singer(0, 4), 0);
        due("the part stays", book.singer(0, 5), 0);
        due("its strength stays", book.part(0, 1), 5);
        due("the seat stays", book.seat(0, 0), 0);
        due("the solo stays", book.part(0, 5), 0);
        due("set(-1, 5)", book.set(-1, 5), BAD);
        due("set(4, 5)", book.set(4, 5), BAD);
        int[][] ends = {{1, 15}, {1, 50}, {0, 10}, {1, 6}};
        int[] before = {13, 5, 1, 4};
        for (int setting = 0; setting < 4; setting++) {
            due("below the least of " + setting, book.set(setting, ends[setting][0] - 1), BAD);
            due("above the most of " + setting, book.set(setting, ends[setting][1] + 1), BAD);
            due("the least of " + setting, book.set(setting, ends[setting][0]), before[setting]);
            due("the most of " + setting, book.set(setting, ends[setting][1]), ends[setting][0]);
            due("the same of " + setting, book.set(setting, ends[setting][1]), ends[setting][1]);
        }
        due("by 15 none fits", book.singer(0, 4), 0);
    }

    // "Takes the tests of the text for a singer, word by word; the text stays." "BAD if there is no such singer; STATE if the text has a fault."
    private static void promise5() {
        ChoirBook book = choir(2);
        due("an empty text", book.test(0), 0);
        Check.text(book, "3-5 4! 4 5!");
        due("word by word", book.test(0), 2);
        due("the text stays", book.test(1), 2);
        due("its length", book.told(7), 11);
        due("test(-1)", book.test(-1), BAD);
        due("test(2)", book.test(2), BAD);
        Check.text(book, "0-40");
        due("all notes", book.test(0), 41);
        Check.text(book, "0-40!");
        due("no note", book.test(0), 0);
        due("nothing is known of the other", book.note(1, 20), NONE);
        Check.text(book, "3!");
        due("one note of the other", book.test(1), 1);
        due("whose other tests stay: can", book.note(1, 4), 1);
        due("whose other tests stay: cannot", book.note(1, 5), 0);
        Check.text(book, "20 41");
        due("a fault", book.test(0), STATE);
        due("nothing taken", book.note(0, 20), 0);
        Check.text(book, "1-");
        due("an end within a word", book.test(1), STATE);
        Check.text(book, "?");
        due("a byte that cannot stand there", book.test(1), STATE);
        Check.text(book, "36");
        due("without what the faulty texts told", book.test(1), 1);
        due("of which nothing is known", book.note(1, 20), NONE);
        due("the other one's notes", book.singer(1, 2), 4);
    }

    // "part: the part, or NONE for none" "BAD if there is no such singer or part; STATE if the part does not fit"
    private static void promise6() {
        ChoirBook book = choir(1);
        due("none from none", book.place(0, NONE), NONE);
        for (int part = 0; part < 4; part++) {
            due("without tests in " + part, book.place(0, part), STATE);
        }
        int[] out = {-1, 4, -2, -3, -8, -10, 9};
        for (int part : out) {
            due("place(0, " + part + ")", book.place(0, part), BAD);
        }
        due("place(-1, NONE)", book.place(-1, NONE), BAD);
        due("place(1, NONE)", book.place(1, NONE), BAD);
        Check.text(book, "10-21");
        book.test(0);
        due("12 notes of the tenor", book.place(0, 2), NONE);
        due("9 notes of the bass", book.place(0, 3), STATE);
        due("the same part again", book.place(0, 2), 2);
        book.set(0, 13);
        due("where they are, but which fits no more", book.place(0, 2), STATE);
        due("they stay", book.singer(0, 5), 2);
        due("none", book.place(0, NONE), 2);
        due("and not back", book.place(0, 2), STATE);
    }

    // "Returns the least strength of the four parts then."
    private static void promise7() {
        ChoirBook book = new ChoirBook();
        due("nobody", book.placeAll(), 0);
        int[] least = {0, 0, 0, 5, 5, 5, 5, 10, 10, 10};
        for (int singers = 1; singers <= 10; singers++) {
            Check.join(book, 5, 170, "0-40");
            due(singers + " of 5", book.placeAll(), least[singers - 1]);
            due(singers + " are placed", book.told(1), singers);
        }
        due("the first part", book.part(0, 1), 15);
        due("the last part", book.part(3, 1), 10);
        due("again", book.placeAll(), 10);
        due("settings do not matter but for the overlap", book.set(1, 50), 5);
        due("the same", book.placeAll(), 10);
        book.set(0, 15);
        due("by 15 notes", book.placeAll(), 10);
    }

    // "Makes the singers absent who are told by the text, and all others present; the text stays." "STATE if the text has a fault."
    private static void promise8() {
        ChoirBook book = choir(10);
        due("an empty text", book.attendance(), 0);
        Check.text(book, "0 1 2 3 4 5 6 7 8 9");
        due("all", book.attendance(), 10);
        due("the text stays", book.attendance(), 10);
        due("its length", book.told(7), 19);
        Check.text(book, "9");
        due("all others are present", book.attendance(), 1);
        due("the last one", book.singer(9, 6), 0);
        due("the one before", book.singer(8, 6), 1);
        Check.text(book, "10");
        due("no singer 10", book.attendance(), STATE);
        due("still the last one", book.told(3), 1);
        Check.text(book, "   ");
        due("nobody", book.attendance(), 0);
        due("the last one is present", book.singer(9, 6), 1);
    }

    // "Returns the number of solos that are given; STATE if there are no singers; FULL if 40 rehearsals were held."
    private static void promise9() {
        ChoirBook book = new ChoirBook();
        due("no singers", book.hold(), STATE);
        book = placed(0, 1, 2, 3);
        due("four solos", book.hold(), 4);
        due("none, for the pause", book.hold(), 0);
        Check.absent(book, "0 1 2 3");
        due("none, all are absent", book.hold(), 0);
        Check.absent(book, "1 2");
        due("two", book.hold(), 2);
        for (int held = 4; held < 40; held++) {
            CHECK.dueTrue("the rehearsal " + held, book.hold() >= 0);
        }
        due("40 were held", book.told(2), 40);
        due("one more", book.hold(), FULL);
        for (int left = 3; left >= 0; left--) {
            book.remove(left);
        }
        due("without singers", book.hold(), STATE);
    }

    // "Returns how many changes can still be undone; STATE if there is none."
    private static void promise10() {
        ChoirBook book = new ChoirBook();
        due("none", book.undo(), STATE);
        book.keep(0);
        book.write('5');
        due("keep and write are no changes", book.undo(), STATE);
        book.add(5, 170);
        due("one", book.undo(), 0);
        due("no more", book.undo(), STATE);
        for (int i = 0; i < 9; i++) {
            book.add(5, 170);
        }
        for (int left = 7; left >= 0; left--) {
            due("eight, then " + left, book.undo(), left);
        }
        due("none is left", book.undo(), STATE);
        due("one singer stays", book.told(0), 1);
    }

    // "code: the byte, 32 to 126" "BAD if code is out of range; FULL if the text has 60 bytes"
    private static void promise11() {
        ChoirBook book = new ChoirBook();
        int[] out = {31, 127, 0, -1, -32, 128, 255, 256 + 48, 65536 + 48};
        for (int code : out) {
            due("write(" + code + ")", book.write(code), BAD);
        }
        for (int code = 32; code < 92; code++) {
            due("write(" + code + ")", book.write(code), code - 31);
        }
        due("byte 61", book.write(32), FULL);
        due("byte 61 out of range", book.write(31), BAD);
        book.wipe();
        for (int code = 92; code <= 126; code++) {
            due("write(" + code + ")", book.write(code), code - 91);
        }
    }

    // "Empties the text." "Returns the length that it had."
    private static void promise12() {
        ChoirBook book = new ChoirBook();
        due("of an empty text", book.wipe(), 0);
        book.write('x');
        due("of one byte", book.wipe(), 1);
        due("then", book.wipe(), 0);
        Check.text(book, "x".repeat(60));
        due("of 60 bytes", book.wipe(), 60);
        due("no byte", book.told(7), 0);
        due("no word", book.attendance(), 0);
    }

    // "Tells about the fault that test() or attendance() found last, also if other calls came behind it."
    private static void promise13() {
        ChoirBook book = choir(1);
        due("what -1", book.fault(-1), BAD);
        due("what 2", book.fault(2), BAD);
        due("no kind", book.fault(0), NONE);
        due("no place", book.fault(1), NONE);
        book.test(0);
        book.attendance();
        due("none was found", book.fault(0), NONE);
        Check.text(book, "x");
        book.test(0);
        faultIs("of the tests", book, 1, 0);
        Check.text(book, "0 1");
        book.attendance();
        faultIs("of the attendance", book, 2, 2);
        Check.text(book, "0 5-");
        book.test(0);
        faultIs("of the tests again", book, 3, 4);
        Check.text(book, "0");
        book.test(0);
        book.attendance();
        book.undo();
        book.test(5);
        book.place(0, 0);
        book.keep(0);
        book.back(0);
        book.wipe();
        book.remove(0);
        book.hold();
        faultIs("behind other calls", book, 3, 4);
        due("what 2 then", book.fault(2), BAD);
        due("what -1 then", book.fault(-1), BAD);
    }

    private static void faultIs(String when, ChoirBook book, int kind, int place) {
        due("fault " + when + ": kind", book.fault(0), kind);
        due("fault " + when + ": place", book.fault(1), place);
    }

    // "0 singers; 1 singers who are placed; .. 8 changes that can be undone" "BAD if what is out of range"
    private static void promise14() {
        ChoirBook book = new ChoirBook();
        due("told(-1)", book.told(-1), BAD);
        due("told(9)", book.told(9), BAD);
        for (int what = 0; what <= 8; what++) {
            due("of nobody: told(" + what + ")", book.told(what), 0);
        }
        book = placed(0, 1, 2, 3, 0, 1, 2, 3, 0);
        book.add(9, 170);
        due("singers", book.told(0), 10);
        due("placed", book.told(1), 9);
        due("all parts are covered", book.told(4), 15);
        due("all but one are absent", Check.absent(book, "0 1 2 3 4 5 6 7 8"), 9);
        due("absent", book.told(3), 9);
        due("no part is covered", book.told(4), 0);
        due("nobody: solos of the rehearsal", book.hold(), 0);
        due("rehearsals", book.told(2), 1);
        due("solos", book.told(5), 0);
        book.hold();
        due("solos then", book.told(5), 4);
        due("no stand-ins were needed", book.told(6), 0);
        Check.text(book, "~".repeat(60));
        due("bytes", book.told(7), 60);
        due("changes", book.told(8), 8);
        book.set(1, 11);
        // The soprano alone has 15.
        due("covered by 11", book.told(4), 1);
        book.set(1, 15);
        due("covered by 15", book.told(4), 1);
        book.set(1, 16);
        due("covered by 16", book.told(4), 0);
    }

    // "BAD if there is no such setting"
    private static void promise15() {
        ChoirBook book = new ChoirBook();
        int[] first = {12, 5, 1, 4};
        for (int setting = -1; setting <= 4; setting++) {
            boolean is = setting >= 0 && setting < 4;
            due("setting(" + setting + ")", book.setting(setting), is ? first[setting] : BAD);
        }
        book.set(2, 0);
        due("a setting of 0", book.setting(2), 0);
    }

    // "2 the lowest and 3 the highest note of their range (NONE if it is empty)" "5 .. (NONE if in none)" "8 .. (NONE if there was none)"
    private static void promise16() {
        ChoirBook book = new ChoirBook();
        due("of nobody", book.singer(0, 0), BAD);
        book.add(9, 220);
        int[] fresh = {9, 220, NONE, NONE, 0, NONE, 1, 0, NONE, 0};
        for (int what = -1; what <= 10; what++) {
            due("fresh: singer(0, " + what + ")", book.singer(0, what), what < 0 || what > 9 ? BAD : fresh[what]);
            due("singer(1, " + what + ")", book.singer(1, what), BAD);
            due("singer(-1, " + what + ")", book.singer(-1, what), BAD);
        }
        Check.text(book, "0");
        book.test(0);
        due("the lowest note", book.singer(0, 2), 0);
        due("which is the highest, too", book.singer(0, 3), 0);
        Check.text(book, "0! 1-40");
        book.test(0);
        due("from 1", book.singer(0, 2), 1);
        due("to 40", book.singer(0, 3), 40);
        due("all parts fit", book.singer(0, 4), 15);
        book.place(0, 0);
        due("the part 0", book.singer(0, 5), 0);
        book.hold();
        due("a solo", book.singer(0, 7), 1);
        due("in the rehearsal 0", book.singer(0, 8), 0);
        Check.absent(book, "0");
        due("absent", book.singer(0, 6), 0);
        due("stood in", book.singer(0, 9), 0);
    }

    // "1 if they can sing it, 0 if they cannot, NONE if it was not tested; BAD if there is no such singer or note"
    private static void promise17() {
        ChoirBook book = new ChoirBook();
        due("of nobody", book.note(0, 0), BAD);
        Check.join(book, 5, 170, "0 1! 39! 40");
        int[] notes = {BAD, 1, 0, NONE};
        for (int i = 0; i < 4; i++) {
            due("note " + (i - 1), book.note(0, i - 1), notes[i]);
            due("note " + (41 - i), book.note(0, 41 - i), notes[i]);
        }
        due("of the singer 1", book.note(1, 0), BAD);
        due("of the singer -1", book.note(-1, 0), BAD);
        due("BAD for a note before NONE", book.note(0, 63), BAD);
        due("and for one beyond a long's bits", book.note(0, 64), BAD);
    }

    // "Returns the number, 0 to 15; BAD if there is no such singer or part."
    private static void promise18() {
        ChoirBook book = new ChoirBook();
        due("of nobody", book.overlap(0, 0), BAD);
        Check.join(book, 5, 170, "0-40");
        Check.join(book, 5, 170, "0-40!");
        for (int part = 0; part < 4; part++) {
            due("all of part " + part, book.overlap(0, part), 15);
            due("none of part " + part, book.overlap(1, part), 0);
        }
        due("overlap(0, -1)", book.overlap(0, -1), BAD);
        due("overlap(0, 4)", book.overlap(0, 4), BAD);
        due("overlap(0, NONE)", book.overlap(0, NONE), BAD);
        due("overlap(-1, 0)", book.overlap(-1, 0), BAD);
        due("overlap(2, 0)", book.overlap(2, 0), BAD);
    }

    // "5 the singer who would get its solo if the next rehearsal were held now (NONE if nobody would)"
    private static void promise19() {
        ChoirBook book = new ChoirBook();
        for (int part = -1; part <= 4; part++) {
            for (int what = -1; what <= 6; what++) {
                boolean is = part >= 0 && part < 4 && what >= 0 && what < 6;
                due("empty: part(" + part + ", " + what + ")", book.part(part, what), is ? what == 5 ? NONE : 0 : BAD);
            }
        }
        due("part(NONE, 0)", book.part(NONE, 0), BAD);
        book = placed(0, 0, 0, 0, 0, 0, 0, 0, 0, 0);
        int[] all = {10, 50, 50, 0, 3, 3};
        for (int what = 0; what < 6; what++) {
            due("ten: part(0, " + what + ")", book.part(0, what), all[what]);
        }
        Check.absent(book, "0 1 2 3 4 5 6 7 8 9");
        due("of all", book.part(0, 1), 50);
        due("of those present", book.part(0, 2), 0);
        due("nobody would", book.part(0, 5), NONE);
        book.set(3, 1);
        due("rows of one", book.part(0, 4), 10);
        book.set(3, 5);
        due("rows of five", book.part(0, 4), 2);
        solosAreToldBehindTheLastRehearsal();
    }

    // "(here, in part() and in passedOver() as if it could be held, also when 40 were)"
    private static void solosAreToldBehindTheLastRehearsal() {
        ChoirBook book = placed(1);
        due("the first rehearsal", book.part(1, 5), 0);
        for (int held = 0; held < 40; held++) {
            book.hold();
        }
        due("its latest solo", book.singer(0, 8), 38);
        due("the rehearsal 40 cannot be held", book.hold(), FULL);
        due("but they would get its solo", book.part(1, 5), 0);
        due("for 2 rehearsals have passed", book.passedOver(0), 0);
        book.set(2, 2);
        due("which are too few for 2", book.part(1, 5), NONE);
        due("as is told", book.passedOver(0), 4);
        book.set(1, 2);
        Check.joinPart(book, 2, 1);
        due("and they would stand in", book.standIn(0), 0);
    }

    // "0 the row, counted through all parts from 0 on; 1 the seat" "NONE if they are placed in no part"
    private static void promise20() {
        ChoirBook book = new ChoirBook();
        due("of nobody", book.seat(0, 0), BAD);
        Check.join(book, 5, 170, "0-40");
        due("what -1", book.seat(0, -1), BAD);
        due("what 2", book.seat(0, 2), BAD);
        due("the singer -1", book.seat(-1, 0), BAD);
        due("the singer 1", book.seat(1, 0), BAD);
        due("no row", book.seat(0, 0), NONE);
        due("no seat", book.seat(0, 1), NONE);
        book.place(0, 3);
        due("the row 0, though in the last part", book.seat(0, 0), 0);
        due("the seat 0", book.seat(0, 1), 0);
        due("what 2 of one who is placed", book.seat(0, 2), BAD);
        book.place(0, NONE);
        due("no row again", book.seat(0, 0), NONE);
        book = placed(3, 3, 3, 0, 0, 0, 0, 0, 1, 2);
        int[] rows = {4, 4, 4, 0, 0, 0, 0, 1, 2, 3};
        int[] seats = {0, 1, -1, 0, 1, -1, 2, 0, 0, 0};
        for (int i = 0; i < 10; i++) {
            due("ten: row of " + i, book.seat(i, 0), rows[i]);
            due("ten: seat of " + i, book.seat(i, 1), seats[i]);
        }
    }

    // "by the number that this singer had then, whoever has it now" "NONE if no solo was given; BAD if there was no such rehearsal or part"
    private static void promise21() {
        ChoirBook book = placed(3, 3);
        due("none was held", book.solo(0, 3), BAD);
        book.set(1, 50);
        book.hold();
        book.hold();
        book.hold();
        due("solo(0, 3)", book.solo(0, 3), 0);
        due("solo(1, 3)", book.solo(1, 3), 1);
        due("solo(2, 3)", book.solo(2, 3), 0);
        due("solo(2, 0)", book.solo(2, 0), NONE);
        due("solo(3, 3)", book.solo(3, 3), BAD);
        due("solo(-1, 3)", book.solo(-1, 3), BAD);
        due("solo(2, 4)", book.solo(2, 4), BAD);
        due("solo(2, -1)", book.solo(2, -1), BAD);
        due("a part of the next rehearsal", book.solo(0, 7), BAD);
        book.remove(0);
        due("1 is 0 now", book.solo(1, 3), 1);
        due("0 is gone", book.solo(0, 3), 0);
        book.hold();
        due("by the number of now", book.solo(3, 3), 0);
        book.undo();
        due("it was not held", book.solo(3, 3), BAD);
        book.remove(0);
        due("nobody is left", book.solo(1, 3), 1);
    }

    // "the sum of the strengths of all who are placed, divided by 4, both converted to float"
    private static void promise22() {
        ChoirBook book = new ChoirBook();
        CHECK.dueFloat("of nobody", book.mean(), 0f);
        for (int sum = 1; sum <= 10; sum++) {
            Check.joinPart(book, 1, sum % 4);
            CHECK.dueFloat("of " + sum, book.mean(), (float) sum / 4f);
        }
        for (int i = 9; i >= 0; i--) {
            book.remove(i);
        }
        for (int i = 1; i <= 10; i++) {
            Check.joinPart(book, 9, 0);
        }
        CHECK.dueFloat("of 90", book.mean(), 22.5f);
        book.place(0, NONE);
        CHECK.dueFloat("of 81", book.mean(), 20.25f);
    }

    // "Returns the part; NONE if they would not stand in; BAD if there is no such singer."
    private static void promise23() {
        ChoirBook book = new ChoirBook();
        due("of nobody", book.standIn(0), BAD);
        book = placed(3, 3, 3, 3);
        due("standIn(-1)", book.standIn(-1), BAD);
        due("standIn(4)", book.standIn(4), BAD);
        int[] due = {0, 1, 2, NONE};
        for (int i = 0; i < 4; i++) {
            due("standIn(" + i + ")", book.standIn(i), due[i]);
        }
        book.hold();
        for (int i = 0; i < 4; i++) {
            due("as was told: " + i, book.singer(i, 9), due[i] == NONE ? 0 : 1);
        }
        Check.absent(book, "0 1 2");
        for (int i = 0; i < 4; i++) {
            due("one is present: standIn(" + i + ")", book.standIn(i), NONE);
        }
    }

    // "0 they would get it; 1 .. no part; 2 .. absent; 3 .. stand in elsewhere; 4 .. too short ago; 5 someone else .. (the first one of these that applies)"
    private static void promise24() {
        ChoirBook book = new ChoirBook();
        due("of nobody", book.passedOver(0), BAD);
        book = placed(0, 0, 0);
        due("passedOver(-1)", book.passedOver(-1), BAD);
        due("passedOver(3)", book.passedOver(3), BAD);
        int[] due = {3, 3, 0};
        for (int i = 0; i < 3; i++) {
            due("of three: " + i, book.passedOver(i), due[i]);
        }
        book.set(1, 50);
        book.hold();
        due("4 and 5 would apply", book.passedOver(0), 4);
        due("0 applies", book.passedOver(1), 0);
        due("5 applies", book.passedOver(2), 5);
        book.set(1, 5);
        due("3, 4 and 5 would apply", book.passedOver(0), 3);
        Check.absent(book, "0");
        due("2 and 4 would apply", book.passedOver(0), 2);
        book.place(0, NONE);
        due("1, 2 and 4 would apply", book.passedOver(0), 1);
        Check.absent(book, "");
        due("1 and 4 would apply", book.passedOver(0), 1);
    }

    // "singer: the singer, or -1 if none is left out" "BAD if there is no such singer."
    private static void promise25() {
        ChoirBook book = new ChoirBook();
        due("of nobody, without none", book.without(-1), 0);
        due("of nobody, without one", book.without(0), BAD);
        for (int i = 0; i < 10; i++) {
            Check.join(book, 9, 170, "0-40");
        }
        due("without(-2)", book.without(-2), BAD);
        due("without(NONE)", book.without(NONE), BAD);
        due("without(10)", book.without(10), BAD);
        due("without(-1) of ten nines", book.without(-1), 18);
        due("without(0)", book.without(0), 18);
        due("without(9)", book.without(9), 18);
        book.remove(0);
        due("without(9) of nine", book.without(9), BAD);
        due("without(8) of nine", book.without(8), 18);
        book.remove(0);
        due("of eight: one part has 9", book.without(7), 9);
        due("of eight: without none", book.without(-1), 18);
        ChoirBook four = placed(0, 0, 0, 0);
        due("four, without none", four.without(-1), 5);
        for (int i = 0; i < 4; i++) {
            due("four, without " + i, four.without(i), 0);
        }
        due("nobody was placed", four.part(0, 0), 4);
        due("nor was anything recorded", four.told(8), 8);
    }

    // "Keeps everything .. in an image, replacing what it kept before. (This is no change.)" "i: the image, 0 or 1"
    private static void promise26() {
        ChoirBook book = new ChoirBook();
        due("keep(-1)", book.keep(-1), BAD);
        due("keep(2)", book.keep(2), BAD);
        due("keep(0) of nobody", book.keep(0), 0);
        due("no change", book.undo(), STATE);
        for (int i = 0; i < 10; i++) {
            Check.joinPart(book, 9, i % 4);
        }
        due("keep(1) of ten", book.keep(1), 10);
        due("the image 0 keeps nobody", book.back(0), 0);
        due("the image 1 keeps ten", book.back(1), 10);
        due("the last one", book.singer(9, 5), 1);
        book.hold();
        due("keep(1) again", book.keep(1), 10);
        book.undo();
        due("no rehearsal", book.told(2), 0);
        due("back", book.back(1), 10);
        due("the rehearsal that replaced", book.told(2), 1);
        book.remove(9);
        due("keep(1) of nine", book.keep(1), 9);
        due("back to nine", book.back(1), 9);
    }

    // "Makes what an image keeps the present state; the image stays." "BAD if there is no such image; STATE if nothing was kept in it."
    private static void promise27() {
        ChoirBook book = new ChoirBook();
        due("back(-1)", book.back(-1), BAD);
        due("back(2)", book.back(2), BAD);
        due("back(0) of nothing", book.back(0), STATE);
        due("back(1) of nothing", book.back(1), STATE);
        book.keep(0);
        due("back(0) of an empty book", book.back(0), 0);
        due("back(1) of nothing still", book.back(1), STATE);
        due("a change", book.told(8), 1);
        book.add(5, 170);
        book.keep(1);
        for (int i = 0; i < 9; i++) {
            due("back and forth", book.back(i % 2), i % 2);
        }
        due("eight can be undone", book.told(8), 8);
        for (int left = 7; left >= 0; left--) {
            due("undo", book.undo(), left);
            due("by turns", book.told(0), (left + 1) % 2 == 0 ? 1 : 0);
        }
        due("no more", book.undo(), STATE);
        due("the images stay", book.back(1), 1);
        what27Restores();
    }

    private static void what27Restores() {
        ChoirBook book = placed(2, 2);
        book.set(1, 50);
        Check.absent(book, "1");
        book.hold();
        Check.absent(book, "0");
        book.keep(1);
        book.remove(0);
        book.remove(0);
        for (int i = 0; i < 3; i++) {
            book.add(1, 100);
            book.hold();
        }
        Check.text(book, "x");
        due("singers then", book.back(1), 2);
        due("rehearsals", book.told(2), 1);
        due("absent", book.told(3), 1);
        due("solos", book.told(5), 1);
        due("weak", book.part(2, 3), 1);
        due("the setting", book.setting(1), 50);
        due("the solo of 0", book.singer(0, 8), 0);
        due("no solo of 1", book.singer(1, 8), NONE);
        due("the text is as it was", book.told(7), 1);
        due("no rehearsal 1", book.solo(1, 2), BAD);
        due("a rehearsal", book.hold(), 1);
        due("its solo", book.solo(1, 2), 1);
        due("and the image is as it was", book.back(1), 2);
        due("with one rehearsal", book.told(2), 1);
    }
}
