import java.util.function.Supplier;
import java.util.function.ToIntFunction;

/** CONVENTIONS: the error codes, which of them comes first, and that a refused call changes nothing. */
public final class RefusedTest {
    private static final int BAD = ChoirBook.BAD, STATE = ChoirBook.STATE, FULL = ChoirBook.FULL, NONE = ChoirBook.NONE;
    private static final int MIN = Integer.MIN_VALUE, MAX = Integer.MAX_VALUE;
    private static final Check CHECK = new Check("RefusedTest");

    public static void main(String[] args) {
        badChangesNothing();
        badReadsNoText();
        stateChangesNothing();
        stateOfATextChangesTheFaultAlone();
        fullChangesNothing();
        askingChangesNothing();
        badComesBeforeState();
        badComesBeforeFull();
        stateComesBeforeFull();
        errorsComeBeforeNone();
        argumentsThatWrapAround();
        argumentsOfTheNumbersOfCodes();
        CHECK.end();
    }

    private static void due(String call, long got, long want) {
        CHECK.due(call, got, want);
    }

    /** Three singers, of whom 2 fits nowhere; a solo, a stand-in, an absence, an image, a fault and changes. */
    private static ChoirBook busy() {
        ChoirBook book = new ChoirBook();
        Check.joinPart(book, 5, 170, 0);
        Check.joinPart(book, 6, 160, 0);
        Check.join(book, 4, 150, "20");
        book.hold();
        Check.text(book, "41");
        book.test(0);
        book.keep(0);
        Check.absent(book, "1");
        book.set(1, 4);
        Check.text(book, "0 2");
        return book;
    }

    private static ChoirBook busyWithText(String text) {
        ChoirBook book = busy();
        Check.text(book, text);
        return book;
    }

    private static ChoirBook ten() {
        ChoirBook book = new ChoirBook();
        for (int i = 0; i < 10; i++) {
            book.add(1 + i % 9, 100 + 12 * i);
        }
        book.set(1, 4);
        Check.text(book, " ".repeat(59) + "7");
        return book;
    }

    private static ChoirBook ended() {
        ChoirBook book = new ChoirBook();
        Check.joinPart(book, 5, 170, 0);
        Check.joinPart(book, 5, 170, 3);
        for (int i = 0; i < 40; i++) {
            book.hold();
        }
        Check.absent(book, "1");
        return book;
    }

    private static ChoirBook untouched() {
        ChoirBook book = new ChoirBook();
        Check.text(book, "5");
        book.attendance();
        book.keep(1);
        return book;
    }

    private static void refuse(String call, Supplier<ChoirBook> made, ToIntFunction<ChoirBook> refused, int error) {
        Twins.refuse(CHECK, call, made, refused, error);
    }

    private static void bad(String call, ToIntFunction<ChoirBook> refused) {
        refuse(call, RefusedTest::busy, refused, BAD);
    }

    // "The error codes are BAD (-1), an argument is out of its range or names something that does not exist"
    // "A call that returns one of them changes nothing, except the latest fault."
    private static void badChangesNothing() {
        bad("add(0, 170)", b -> b.add(0, 170));
        bad("add(10, 170)", b -> b.add(10, 170));
        bad("add(5, 99)", b -> b.add(5, 99));
        bad("add(5, 221)", b -> b.add(5, 221));
        for (int singer = -1; singer <= 3; singer += 4) {
            int wrong = singer;
            bad("remove(" + singer + ")", b -> b.remove(wrong));
            bad("test(" + singer + ")", b -> b.test(wrong));
            bad("place(" + singer + ", 0)", b -> b.place(wrong, 0));
            bad("place(" + singer + ", NONE)", b -> b.place(wrong, NONE));
        }
        bad("place(0, -1)", b -> b.place(0, -1));
        bad("place(0, 4)", b -> b.place(0, 4));
        int[][] sets = {{-1, 1}, {4, 1}, {0, 0}, {0, 16}, {1, 0}, {1, 51}, {2, -1}, {2, 11}, {3, 0}, {3, 7}};
        for (int[] set : sets) {
            bad("set(" + set[0] + ", " + set[1] + ")", b -> b.set(set[0], set[1]));
        }
        bad("write(31)", b -> b.write(31));
        bad("write(127)", b -> b.write(127));
        for (int image = -1; image <= 2; image += 3) {
            int wrong = image;
            bad("keep(" + image + ")", b -> b.keep(wrong));
            bad("back(" + image + ")", b -> b.back(wrong));
        }
        badQuestions();
    }

    private static void badQuestions() {
        int[][] ends = {{-1, 0}, {3, 0}, {0, -1}, {0, 41}};
        for (int[] end : ends) {
            String arguments = "(" + end[0] + ", " + end[1] + ")";
            bad("note" + arguments, b -> b.note(end[0], end[1]));
            bad("singer" + arguments, b -> b.singer(end[0], end[1]));
            bad("overlap" + arguments, b -> b.overlap(end[0], end[1]));
            bad("seat" + arguments, b -> b.seat(end[0], end[1]));
            bad("solo" + arguments, b -> b.solo(end[0], end[1]));
        }
        bad("part(-1, 5)", b -> b.part(-1, 5));
        bad("part(4, 5)", b -> b.part(4, 5));
        bad("part(0, -1)", b -> b.part(0, -1));
        bad("part(0, 6)", b -> b.part(0, 6));
        bad("fault(2)", b -> b.fault(2));
        bad("told(9)", b -> b.told(9));
        bad("setting(4)", b -> b.setting(4));
        bad("standIn(3)", b -> b.standIn(3));
        bad("passedOver(3)", b -> b.passedOver(3));
        bad("without(3)", b -> b.without(3));
        bad("without(-2)", b -> b.without(-2));
    }

    private static void badReadsNoText() {
        Supplier<ChoirBook> faulty = () -> busyWithText("7 x");
        refuse("test(3) with a faulty text", faulty, b -> b.test(3), BAD);
        refuse("test(-1) with a faulty text", faulty, b -> b.test(-1), BAD);
    }

    // "STATE (-2), the call is not possible now, as the method says"
    private static void stateChangesNothing() {
        refuse("place(2, 0), which does not fit", RefusedTest::busy, b -> b.place(2, 0), STATE);
        refuse("back(1), where nothing was kept", RefusedTest::busy, b -> b.back(1), STATE);
        refuse("undo() of none", RefusedTest::untouched, ChoirBook::undo, STATE);
        refuse("hold() without singers", RefusedTest::untouched, ChoirBook::hold, STATE);
        refuse("back(0), where nothing was kept", RefusedTest::untouched, b -> b.back(0), STATE);
        refuse("back(0) of a new book", ChoirBook::new, b -> b.back(0), STATE);
        refuse("hold() of a new book", ChoirBook::new, ChoirBook::hold, STATE);
    }

    private static void stateOfATextChangesTheFaultAlone() {
        Twins.refuseText(CHECK, "test(0) of '7! 3 x'", () -> busyWithText("7! 3 x"), b -> b.test(0), 1, 5);
        Twins.refuseText(CHECK, "test(2) of '0-36 5-'", () -> busyWithText("0-36 5-"), b -> b.test(2), 3, 7);
        Twins.refuseText(CHECK, "attendance() of '0 1 2 3'", () -> busyWithText("0 1 2 3"), ChoirBook::attendance, 2, 6);
        Twins.refuseText(CHECK, "attendance() of '!'", () -> busyWithText("!"), ChoirBook::attendance, 1, 0);
        Twins.refuseText(CHECK, "attendance() without singers", RefusedTest::untouched, ChoirBook::attendance, 2, 0);
    }

    // "FULL (-3), a maximum would be exceeded"
    private static void fullChangesNothing() {
        refuse("an eleventh singer", RefusedTest::ten, b -> b.add(5, 170), FULL);
        refuse("a byte 61", RefusedTest::ten, b -> b.write('5'), FULL);
        refuse("a rehearsal 41", RefusedTest::ended, ChoirBook::hold, FULL);
    }

    private static void askingChangesNothing() {
        Supplier<ChoirBook> made = RefusedTest::busy;
        Twins.ask(CHECK, "asking of singers", made, b -> {
            for (int what = 0; what < 10; what++) {
                b.singer(0, what);
            }
            b.note(0, 5);
            b.overlap(0, 0);
            b.seat(0, 0);
            b.seat(1, 1);
        });
        Twins.ask(CHECK, "asking of the whole", made, b -> {
            for (int what = 0; what <= 8; what++) {
                b.told(what);
            }
            for (int part = 0; part < 4; part++) {
                b.setting(part);
                b.part(part, part);
                b.part(part, 5);
                b.solo(0, part);
            }
            b.mean();
            b.fault(0);
            b.fault(1);
        });
        Twins.ask(CHECK, "asking what would be", made, b -> {
            for (int singer = 0; singer < 3; singer++) {
                b.standIn(singer);
                b.passedOver(singer);
                b.without(singer);
            }
            b.without(-1);
        });
        Twins.ask(CHECK, "asking what would be, behind the last one", RefusedTest::ended, b -> {
            b.standIn(0);
            b.part(0, 5);
            b.passedOver(0);
        });
    }

    // "If several of them apply to one call, the first one in this list is returned."
    private static void badComesBeforeState() {
        ChoirBook book = busyWithText("x");
        due("test of nobody, by a faulty text", book.test(3), BAD);
        due("place of nobody in a part that would not fit", book.place(3, 0), BAD);
        due("place in no part of one whom none fits", book.place(2, 4), BAD);
        due("place in a part -1 of one whom none fits", book.place(2, -1), BAD);
        due("back of an image that does not exist, and keeps nothing", new ChoirBook().back(2), BAD);
        due("back(-1) of a new book", new ChoirBook().back(-1), BAD);
        due("test of a new book, by a faulty text", untouched().test(0), BAD);
    }

    private static void badComesBeforeFull() {
        ChoirBook book = ten();
        due("an eleventh singer without strength", book.add(0, 170), BAD);
        due("an eleventh singer too strong", book.add(10, 170), BAD);
        due("an eleventh singer too small", book.add(5, 99), BAD);
        due("an eleventh singer too tall", book.add(5, 221), BAD);
        due("a byte 61 that is too small", book.write(31), BAD);
        due("a byte 61 that is too large", book.write(127), BAD);
    }

    private static void stateComesBeforeFull() {
        ChoirBook book = ended();
        book.remove(1);
        due("a rehearsal 41 with a singer", book.hold(), FULL);
        book.remove(0);
        due("a rehearsal 41 without singers", book.hold(), STATE);
    }

    // "NONE (-9) means that there is no such value; it is returned only if no error code applies."
    private static void errorsComeBeforeNone() {
        ChoirBook book = new ChoirBook();
        due("fault(0) of none", book.fault(0), NONE);
        due("fault(2) of none", book.fault(2), BAD);
        due("fault(-1) of none", book.fault(-1), BAD);
        due("part(0, 5) of none", book.part(0, 5), NONE);
        due("part(4, 5) of none", book.part(4, 5), BAD);
        due("solo ahead of the first rehearsal", book.solo(0, 0), BAD);
        book.add(5, 170);
        due("a note that was not tested", book.note(0, 40), NONE);
        due("a note that does not exist", book.note(0, 41), BAD);
        due("the row of one in none", book.seat(0, 0), NONE);
        due("a number that there is not, of one in none", book.seat(0, 2), BAD);
        due("the lowest note of none", book.singer(0, 2), NONE);
        due("of one who does not exist", book.singer(1, 2), BAD);
        due("standIn of one who would not", book.standIn(0), NONE);
        due("standIn of one who does not exist", book.standIn(1), BAD);
        book.hold();
        due("no solo", book.solo(0, 3), NONE);
        due("no such part", book.solo(0, 4), BAD);
        due("no such rehearsal", book.solo(1, 3), BAD);
        due("from none to none", book.place(0, NONE), NONE);
    }

    /** Numbers that would name something if they lost bits, or were multiplied by 4 or by 41. */
    private static void argumentsThatWrapAround() {
        int[] far = {MIN, MIN + 1, -(1 << 30), -(1 << 16), -256, -16, -4, 256, 1 << 8 | 1, 1 << 16, 1 << 30, 1 << 30 | 1, MAX - 1, MAX};
        ChoirBook book = busyWithText("0");
        for (int x : far) {
            String at = "(" + x + ")";
            due("remove" + at, book.remove(x), BAD);
            due("test" + at, book.test(x), BAD);
            due("setting" + at, book.setting(x), BAD);
            due("told" + at, book.told(x), BAD);
            due("fault" + at, book.fault(x), BAD);
            due("write" + at, book.write(x), BAD);
            due("standIn" + at, book.standIn(x), BAD);
            due("passedOver" + at, book.passedOver(x), BAD);
            due("without" + at, book.without(x), BAD);
            due("keep" + at, book.keep(x), BAD);
            due("back" + at, book.back(x), BAD);
        }
        book = busyWithText("0");
        for (int x : far) {
            String at = "(" + x + ")";
            due("add with strength " + at, book.add(x, 170), BAD);
            due("add with height " + at, book.add(5, x), BAD);
            due("set of setting " + at, book.set(x, 5), BAD);
            due("set to value " + at, book.set(1, x), BAD);
            due("place of singer " + at, book.place(x, 0), BAD);
            due("place in part " + at, book.place(0, x), BAD);
            due("singer of " + at, book.singer(x, 0), BAD);
            due("singer's number " + at, book.singer(0, x), BAD);
            due("note of singer " + at, book.note(x, 20), BAD);
            due("note " + at, book.note(0, x), BAD);
        }
        book = busyWithText("0");
        for (int x : far) {
            String at = "(" + x + ")";
            due("overlap of singer " + at, book.overlap(x, 0), BAD);
            due("overlap with part " + at, book.overlap(0, x), BAD);
            due("part " + at, book.part(x, 0), BAD);
            due("part's number " + at, book.part(0, x), BAD);
            due("seat of singer " + at, book.seat(x, 0), BAD);
            due("seat's number " + at, book.seat(0, x), BAD);
            due("solo of rehearsal " + at, book.solo(x, 0), BAD);
            due("solo of part " + at, book.solo(0, x), BAD);
        }
        due("all are there", book.told(0), 3);
    }

    /** The codes themselves name nobody, but for NONE where place() and -1 where without() says so. */
    private static void argumentsOfTheNumbersOfCodes() {
        ChoirBook book = busy();
        int[] codes = {BAD, STATE, FULL, NONE};
        for (int code : codes) {
            due("remove of a code", book.remove(code), BAD);
            due("place of a code", book.place(code, NONE), BAD);
            due("seat of a code", book.seat(code, 0), BAD);
            due("setting of a code", book.setting(code), BAD);
            due("part of a code", book.part(code, 0), BAD);
            due("solo of a code", book.solo(code, 0), BAD);
            due("overlap with a code", book.overlap(0, code), BAD);
            due("without a code", book.without(code), code == -1 ? 0 : BAD);
            due("place in a code", book.place(2, code), code == NONE ? NONE : BAD);
        }
    }
}
