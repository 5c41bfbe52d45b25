/** Promises 23 to 27: what would be, and images. */
public final class WouldBeTest {
    private static final int BAD = ChoirBook.BAD, STATE = ChoirBook.STATE, NONE = ChoirBook.NONE;
    private static final Check CHECK = new Check("WouldBeTest");

    public static void main(String[] args) {
        promise23StandIn();
        promise23OnlyWhereItFits();
        promise24PassedOver();
        promise24TheFirstReasonCounts();
        promise25Without();
        promise26Keep();
        promise27Back();
        promise27IsAChange();
        promise27SolosAreKept();
        CHECK.end();
    }

    private static void due(String call, long got, long want) {
        CHECK.due(call, got, want);
    }

    private static void standIns(String when, ChoirBook book, int... due) {
        for (int i = 0; i < due.length; i++) {
            due(when + ": standIn(" + i + ")", book.standIn(i), due[i]);
        }
    }

    private static void promise23StandIn() {
        ChoirBook book = new ChoirBook();
        due("standIn(0) of none", book.standIn(0), BAD);
        for (int i = 0; i < 5; i++) {
            Check.joinPart(book, 5, 0);
        }
        due("standIn(-1)", book.standIn(-1), BAD);
        due("standIn(5)", book.standIn(5), BAD);
        standIns("five sopranos", book, 1, 2, 3, NONE, NONE);
        Check.absent(book, "1");
        standIns("1 is absent", book, 1, NONE, 2, 3, NONE);
        Check.absent(book, "1 2");
        standIns("1 and 2 are absent", book, 1, NONE, NONE, 2, NONE);
        book.set(1, 6);
        standIns("6 cover", book, 1, NONE, NONE, NONE, NONE);
        book.set(1, 50);
        standIns("50 cover", book, NONE, NONE, NONE, NONE, NONE);
        due("told(6)", book.told(6), 0);
        due("asking is no change", book.undo(), 7);
        due("undone is the setting", book.setting(1), 6);
    }

    private static void promise23OnlyWhereItFits() {
        ChoirBook book = new ChoirBook();
        Check.join(book, 5, 170, "16-36");
        Check.join(book, 5, 170, "16-30");
        Check.join(book, 5, 170, "10-30");
        book.place(0, 1);
        book.place(1, 1);
        book.place(2, 1);
        standIns("by their ranges", book, 0, NONE, 2);
        book.set(0, 9);
        standIns("by less notes", book, 0, 2, NONE);
        Check.text(book, "0-40!");
        book.test(0);
        standIns("0 fits nowhere, but is placed", book, NONE, 0, 2);
        book.place(1, NONE);
        standIns("1 is in none", book, NONE, NONE, 0);
    }

    private static void promise24PassedOver() {
        ChoirBook book = new ChoirBook();
        due("passedOver(0) of none", book.passedOver(0), BAD);
        book.add(9, 170);
        Check.joinPart(book, 5, 0);
        Check.joinPart(book, 5, 0);
        due("passedOver(-1)", book.passedOver(-1), BAD);
        due("passedOver(3)", book.passedOver(3), BAD);
        due("in no part", book.passedOver(0), 1);
        due("would stand in", book.passedOver(1), 3);
        due("would get it", book.passedOver(2), 0);
        book.set(1, 9);
        due("stands in no more", book.passedOver(1), 0);
        due("someone else comes before", book.passedOver(2), 5);
        Check.absent(book, "1");
        due("is absent", book.passedOver(1), 2);
        due("gets it", book.passedOver(2), 0);
        book.hold();
        due("too short ago", book.passedOver(2), 4);
        due("has none", book.passedOver(1), 0);
        book.hold();
        due("again, longest ago", book.passedOver(2), 0);
        due("too short ago too", book.passedOver(1), 4);
        book.hold();
        due("too short ago again", book.passedOver(2), 4);
        due("rested", book.passedOver(1), 0);
        book.set(2, 0);
        due("more solos", book.passedOver(2), 5);
    }

    private static void promise24TheFirstReasonCounts() {
        ChoirBook book = new ChoirBook();
        Check.joinPart(book, 5, 0);
        Check.joinPart(book, 5, 1);
        book.set(1, 9);
        book.hold();
        Check.absent(book, "0");
        due("absent before the pause", book.passedOver(0), 2);
        book.place(0, NONE);
        due("no part before absent", book.passedOver(0), 1);
        book.place(0, 1);
        Check.absent(book, "");
        due("the pause", book.passedOver(0), 4);
        book.set(1, 5);
        due("standing in before the pause", book.passedOver(0), 3);
        due("the pause before someone else", book.passedOver(1), 4);
        book.set(2, 0);
        due("nobody else is left", book.passedOver(1), 0);
    }

    private static void promise25Without() {
        ChoirBook book = new ChoirBook();
        due("without(-1) of none", book.without(-1), 0);
        due("without(0) of none", book.without(0), BAD);
        Check.joinPart(book, 5, 2);
        Check.joinPart(book, 4, 2);
        Check.joinPart(book, 3, 2);
        Check.joinPart(book, 2, 2);
        Check.joinPart(book, 4, 2);
        due("without(-2)", book.without(-2), BAD);
        due("without(5)", book.without(5), BAD);
        due("without(-9)", book.without(-9), BAD);
        due("without(-1)", book.without(-1), 4);
        int[] due = {2, 2, 2, 3, 2};
        for (int i = 0; i < 5; i++) {
            due("without(" + i + ")", book.without(i), due[i]);
        }
        due("nobody is placed by it", book.part(2, 0), 5);
        Check.absent(book, "0 1 2 3 4");
        due("absent ones count", book.without(-1), 4);
        Check.text(book, "0-40!");
        book.test(3);
        due("one who fits nowhere: as without them", book.without(-1), 3);
        due("and without them", book.without(3), 3);
        due("without another: three are left", book.without(0), 0);
        due("placeAll reaches it", book.placeAll(), 3);
    }

    private static void promise26Keep() {
        ChoirBook book = new ChoirBook();
        due("keep(-1)", book.keep(-1), BAD);
        due("keep(2)", book.keep(2), BAD);
        due("keep(0) of nobody", book.keep(0), 0);
        book.add(5, 170);
        due("keep(1)", book.keep(1), 1);
        due("no change", book.told(8), 1);
        book.add(6, 171);
        book.add(7, 172);
        due("back(0)", book.back(0), 0);
        due("back(1)", book.back(1), 1);
        due("who that is", book.singer(0, 0), 5);
        book.remove(0);
        due("keep(1) replaces", book.keep(1), 0);
        book.add(5, 170);
        due("back(1) then", book.back(1), 0);
    }

    private static void promise27Back() {
        ChoirBook book = new ChoirBook();
        due("back(-1)", book.back(-1), BAD);
        due("back(2)", book.back(2), BAD);
        due("back(0) of nothing", book.back(0), STATE);
        Check.joinPart(book, 5, 170, 0);
        Check.joinPart(book, 5, 160, 0);
        book.set(2, 3);
        book.hold();
        Check.absent(book, "1");
        Check.text(book, "x");
        book.keep(0);
        due("back(1) of nothing", book.back(1), STATE);
        Check.absent(book, "");
        book.hold();
        book.set(0, 1);
        book.set(1, 1);
        book.set(2, 1);
        book.set(3, 1);
        Check.text(book, "0-40!");
        book.test(0);
        book.test(1);
        book.place(0, NONE);
        book.remove(1);
        Check.text(book, "0 1x");
        book.test(0);
        due("back(0)", book.back(0), 2);
        int[] settings = {12, 5, 3, 4};
        int[][] singers = {{5, 170, 0, 40, 15, 0, 1, 0, NONE, 1}, {5, 160, 0, 40, 15, 0, 0, 1, 0, 0}};
        for (int i = 0; i < 4; i++) {
            due("setting(" + i + ")", book.setting(i), settings[i]);
        }
        for (int i = 0; i < 2; i++) {
            for (int what = 0; what < 10; what++) {
                due("singer(" + i + ", " + what + ")", book.singer(i, what), singers[i][what]);
            }
            due("note(" + i + ", 7)", book.note(i, 7), 1);
        }
        due("rehearsals", book.told(2), 1);
        due("solos", book.told(5), 1);
        due("stand-ins", book.told(6), 1);
        due("weak", book.part(3, 3), 1);
        due("solo(0, 0)", book.solo(0, 0), 1);
        due("solo(1, 0)", book.solo(1, 0), BAD);
        due("the text stays", book.told(7), 4);
        due("the fault stays", book.fault(1), 3);
        book.remove(0);
        due("the image stays", book.back(0), 2);
        due("back(1) still", book.back(1), STATE);
    }

    private static void promise27IsAChange() {
        ChoirBook book = new ChoirBook();
        book.keep(0);
        book.add(5, 170);
        book.add(6, 170);
        due("back", book.back(0), 0);
        due("changes", book.told(8), 3);
        due("undo", book.undo(), 2);
        due("both are there", book.told(0), 2);
        due("the second one", book.singer(1, 0), 6);
        due("undo of add", book.undo(), 1);
        due("one is there", book.told(0), 1);
        due("the image is not undone", book.back(0), 0);
        due("errors are no changes", book.back(1), STATE);
        due("changes then", book.told(8), 2);
    }

    private static void promise27SolosAreKept() {
        ChoirBook book = new ChoirBook();
        Check.joinPart(book, 5, 2);
        Check.joinPart(book, 5, 2);
        book.set(1, 50);
        book.hold();
        book.hold();
        book.keep(0);
        book.undo();
        book.undo();
        Check.absent(book, "0");
        book.hold();
        due("now 1 has the solo", book.solo(0, 2), 1);
        book.back(0);
        due("in the image 0 has it", book.solo(0, 2), 0);
        due("and 1 the next one", book.solo(1, 2), 1);
        book.undo();
        due("undone: 1 has the solo", book.solo(0, 2), 1);
        due("undone: one rehearsal", book.solo(1, 2), BAD);
    }
}
