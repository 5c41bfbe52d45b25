/** Promises 1 to 10: a new object, and the changes. */
public final class ChangesTest {
    private static final int BAD = ChoirBook.BAD, STATE = ChoirBook.STATE, FULL = ChoirBook.FULL, NONE = ChoirBook.NONE;
    private static final Check CHECK = new Check("ChangesTest");

    public static void main(String[] args) {
        promise1NewObject();
        promise2Add();
        promise2AddsAFreshSinger();
        promise3Remove();
        promise3WhatWasCountedStays();
        promise3RemoveOfTen();
        promise4Set();
        promise4SingersStayPlaced();
        promise5Test();
        promise5Faults();
        promise6Place();
        promise7PlaceAll();
        promise7Ties();
        promise7WhoFitsCounts();
        promise7Uneven();
        promise8Attendance();
        promise9Hold();
        promise9StandIns();
        promise9StandInsKeepTheirPartCovered();
        promise9Solos();
        promise9WhoComesFirst();
        promise9Pause();
        promise9Limit();
        promise10Undo();
        promise10WhatIsNotUndone();
        CHECK.end();
    }

    private static void due(String call, long got, long want) {
        CHECK.due(call, got, want);
    }

    private static void promise1NewObject() {
        ChoirBook book = new ChoirBook();
        for (int what = 0; what <= 8; what++) {
            due("new: told(" + what + ")", book.told(what), 0);
        }
        int[] settings = {12, 5, 1, 4};
        for (int setting = 0; setting < 4; setting++) {
            due("new: setting(" + setting + ")", book.setting(setting), settings[setting]);
        }
        for (int part = 0; part < 4; part++) {
            for (int what = 0; what < 5; what++) {
                due("new: part(" + part + ", " + what + ")", book.part(part, what), 0);
            }
            due("new: part(" + part + ", 5)", book.part(part, 5), NONE);
        }
        due("new: fault(0)", book.fault(0), NONE);
        due("new: fault(1)", book.fault(1), NONE);
        due("new: singer(0, 0)", book.singer(0, 0), BAD);
        due("new: solo(0, 0)", book.solo(0, 0), BAD);
        due("new: undo()", book.undo(), STATE);
        due("new: back(0)", book.back(0), STATE);
        due("new: back(1)", book.back(1), STATE);
        due("new: wipe()", book.wipe(), 0);
        due("new: without(-1)", book.without(-1), 0);
        CHECK.dueFloat("new: mean()", book.mean(), 0f);
    }

    private static void promise2Add() {
        ChoirBook book = new ChoirBook();
        int[][] wrong = {{0, 170}, {10, 170}, {5, 99}, {5, 221}, {Integer.MIN_VALUE, 170}, {5, Integer.MAX_VALUE}, {-1, -1}};
        for (int[] one : wrong) {
            due("add(" + one[0] + ", " + one[1] + ")", book.add(one[0], one[1]), BAD);
        }
        due("told(8) behind faults", book.told(8), 0);
        due("add(1, 100)", book.add(1, 100), 0);
        due("told(8) behind add", book.told(8), 1);
        due("add(9, 220)", book.add(9, 220), 1);
        due("singer(0, 0)", book.singer(0, 0), 1);
        due("singer(0, 1)", book.singer(0, 1), 100);
        due("singer(1, 0)", book.singer(1, 0), 9);
        due("singer(1, 1)", book.singer(1, 1), 220);
        for (int number = 2; number < 10; number++) {
            due("add to " + number, book.add(5, 150), number);
        }
        due("told(0) of ten", book.told(0), 10);
        due("the eleventh", book.add(5, 150), FULL);
        due("BAD comes before FULL", book.add(0, 150), BAD);
        due("BAD comes before FULL, by height", book.add(5, 99), BAD);
        due("told(0) behind FULL", book.told(0), 10);
        due("FULL is no change", book.undo(), 7);
        due("told(0) behind undo", book.told(0), 9);
    }

    private static void promise2AddsAFreshSinger() {
        ChoirBook book = new ChoirBook();
        Check.joinPart(book, 9, 1);
        Check.joinPart(book, 3, 1);
        book.hold();
        due("1 stood in", book.singer(1, 9), 1);
        Check.absent(book, "0");
        book.hold();
        due("1 had a solo", book.singer(1, 7), 1);
        Check.absent(book, "0 1");
        book.remove(0);
        book.remove(0);
        due("add behind remove", book.add(2, 111), 0);
        due("present", book.singer(0, 6), 1);
        book.add(2, 111);
        int[] fresh = {2, 111, NONE, NONE, 0, NONE, 1, 0, NONE, 0};
        for (int number = 0; number < 2; number++) {
            for (int what = 0; what < 10; what++) {
                due("fresh: singer(" + number + ", " + what + ")", book.singer(number, what), fresh[what]);
            }
            due("fresh: note", book.note(number, 20), NONE);
        }
    }

    private static void promise3Remove() {
        ChoirBook book = new ChoirBook();
        Check.joinPart(book, 5, 170, 0);
        Check.join(book, 4, 160, "5-20 7!");
        Check.joinPart(book, 3, 150, 2);
        Check.joinPart(book, 2, 140, 3);
        Check.absent(book, "3");
        due("remove(-1)", book.remove(-1), BAD);
        due("remove(4)", book.remove(4), BAD);
        int changes = book.told(8);
        due("remove(1)", book.remove(1), 3);
        due("a change", book.told(8), Math.min(8, changes + 1));
        due("remove(3) then", book.remove(3), BAD);
        int[][] due = {{5, 170, 0, 1}, {3, 150, 2, 1}, {2, 140, 3, 0}};
        for (int i = 0; i < 3; i++) {
            due("strength of " + i, book.singer(i, 0), due[i][0]);
            due("height of " + i, book.singer(i, 1), due[i][1]);
            due("part of " + i, book.singer(i, 5), due[i][2]);
            due("presence of " + i, book.singer(i, 6), due[i][3]);
            due("notes of " + i, book.singer(i, 3), 40);
        }
        due("remove the last", book.remove(2), 2);
        due("remove(0)", book.remove(0), 1);
        due("who is left", book.singer(0, 0), 3);
        due("remove all", book.remove(0), 0);
        due("remove of none", book.remove(0), BAD);
        due("undo", book.undo(), 7);
        due("back again", book.singer(0, 0), 3);
    }

    private static void promise3WhatWasCountedStays() {
        ChoirBook book = new ChoirBook();
        Check.joinPart(book, 5, 1);
        Check.joinPart(book, 5, 1);
        book.hold();
        due("stood in", book.singer(0, 9), 1);
        book.remove(0);
        due("rehearsals", book.told(2), 1);
        due("solos", book.told(5), 1);
        due("stand-ins", book.told(6), 1);
        due("weak for 0", book.part(0, 3), 0);
        due("weak for 2", book.part(2, 3), 1);
        due("solo(0, 1), by the number of then", book.solo(0, 1), 1);
        due("the later one keeps their solos", book.singer(0, 7), 1);
        due("and their latest", book.singer(0, 8), 0);
        due("and stood in never", book.singer(0, 9), 0);
        book.remove(0);
        due("solo(0, 1) of one removed", book.solo(0, 1), 1);
        due("solos behind all", book.told(5), 1);
    }

    private static void promise3RemoveOfTen() {
        ChoirBook book = new ChoirBook();
        for (int i = 0; i < 10; i++) {
            Check.joinPart(book, 1 + i % 9, 100 + i, i % 4);
        }
        Check.absent(book, "9");
        due("ten: absent", book.told(3), 1);
        due("ten: covered", book.told(4), 15);
        due("ten: the alto without 9", book.part(1, 2), 8);
        due("ten: row of 9", book.seat(9, 0), 1);
        due("ten: solo", book.part(1, 5), 1);
        due("ten: hold", book.hold(), 4);
        due("ten: 9 is present again", book.singer(9, 6), 1);
        due("ten: remove(0)", book.remove(0), 9);
        for (int i = 0; i < 9; i++) {
            due("height of " + i, book.singer(i, 1), 101 + i);
        }
        due("the tenth is gone", book.singer(9, 1), BAD);
    }

    private static void promise4Set() {
        ChoirBook book = new ChoirBook();
        int[] first = {12, 5, 1, 4};
        int[] least = {1, 1, 0, 1};
        int[] most = {15, 50, 10, 6};
        for (int setting = 0; setting < 4; setting++) {
            String name = "set(" + setting;
            int changes = book.told(8);
            due(name + ", below)", book.set(setting, least[setting] - 1), BAD);
            due(name + ", above)", book.set(setting, most[setting] + 1), BAD);
            due(name + ", far below)", book.set(setting, Integer.MIN_VALUE), BAD);
            due(name + ", far above)", book.set(setting, Integer.MAX_VALUE), BAD);
            due("no change", book.told(8), changes);
            due(name + ", least)", book.set(setting, least[setting]), first[setting]);
            due("setting", book.setting(setting), least[setting]);
            due(name + ", most)", book.set(setting, most[setting]), least[setting]);
            due("setting", book.setting(setting), most[setting]);
            due("changes", book.told(8), changes + 2);
        }
        due("set(-1, 1)", book.set(-1, 1), BAD);
        due("set(4, 1)", book.set(4, 1), BAD);
        due("set to the same", book.set(3, 6), 6);
        due("which is a change", book.undo(), 7);
        due("undone", book.undo(), 6);
        due("setting(3)", book.setting(3), 1);
        due("setting(2)", book.setting(2), 10);
    }

    private static void promise4SingersStayPlaced() {
        ChoirBook book = new ChoirBook();
        Check.join(book, 5, 170, "22-33");
        due("place", book.place(0, 0), NONE);
        book.set(0, 13);
        due("fits no more", book.singer(0, 4), 0);
        due("stays", book.singer(0, 5), 0);
        due("place there again", book.place(0, 0), STATE);
        due("strength", book.part(0, 1), 5);
    }

    private static void promise5Test() {
        ChoirBook book = new ChoirBook();
        book.add(5, 170);
        book.add(5, 170);
        due("test without a word", book.test(0), 0);
        due("a change", book.told(8), 3);
        Check.text(book, "0-10 5!");
        due("0-10 5!", book.test(0), 5);
        due("the text stays", book.told(7), 7);
        due("of two rows as long the lowest", book.singer(0, 2), 0);
        due("its highest", book.singer(0, 3), 4);
        due("note 5", book.note(0, 5), 0);
        due("note 6", book.note(0, 6), 1);
        due("note 11", book.note(0, 11), NONE);
        due("the other has no tests", book.note(1, 0), NONE);
        Check.text(book, "5! 0-10");
        due("the latest test counts", book.test(0), 11);
        Check.text(book, "3");
        due("nothing new", book.test(0), 11);
        Check.text(book, "1-2! 1");
        due("1-2! 1", book.test(0), 8);
        due("lowest", book.singer(0, 2), 3);
        due("highest", book.singer(0, 3), 10);
        due("note 1", book.note(0, 1), 1);
        due("note 2", book.note(0, 2), 0);
        Check.text(book, "0-40!");
        due("nothing can be sung", book.test(0), 0);
        due("lowest", book.singer(0, 2), NONE);
        Check.text(book, "0");
        due("the lowest note", book.test(0), 1);
        Check.text(book, "  40  ");
        due("blanks round the highest note", book.test(1), 1);
        due("it alone", book.singer(1, 2), 40);
        Check.text(book, "00-05 07-7");
        due("two digits, and a row of one", book.test(1), 6);
        due("from 0", book.singer(1, 2), 0);
        due("to 5", book.singer(1, 3), 5);
        due("note 7", book.note(1, 7), 1);
        due("note 6", book.note(1, 6), NONE);
        Check.text(book, "39-40");
        due("up to the highest", book.test(1), 6);
        due("undo", book.undo(), 7);
        due("note 39", book.note(1, 39), NONE);
    }

    private static void promise5Faults() {
        ChoirBook book = new ChoirBook();
        Check.join(book, 5, 170, "1-3");
        int changes = book.told(8);
        Check.text(book, "9 5-");
        due("a fault", book.test(0), STATE);
        due("nothing is taken", book.note(0, 9), NONE);
        due("no change", book.told(8), changes);
        due("kind", book.fault(0), 3);
        Check.text(book, "x");
        due("BAD comes before STATE", book.test(1), BAD);
        due("test(-1)", book.test(-1), BAD);
        due("the text was not read", book.fault(0), 3);
    }

    private static void promise6Place() {
        ChoirBook book = new ChoirBook();
        Check.join(book, 5, 170, "10-27");
        int changes = book.told(8);
        due("place(-1, 0)", book.place(-1, 0), BAD);
        due("place(1, 0)", book.place(1, 0), BAD);
        due("place(0, -1)", book.place(0, -1), BAD);
        due("place(0, 4)", book.place(0, 4), BAD);
        due("place(0, -8)", book.place(0, -8), BAD);
        due("place(0, -10)", book.place(0, -10), BAD);
        due("BAD comes before STATE", book.place(1, 3), BAD);
        due("soprano, by 6 notes", book.place(0, 0), STATE);
        due("bass, by 9 notes", book.place(0, 3), STATE);
        due("no change", book.told(8), changes);
        due("alto, by 12 notes", book.place(0, 1), NONE);
        due("tenor, by 15 notes", book.place(0, 2), 1);
        due("again", book.place(0, 2), 2);
        due("changes", book.told(8), changes + 3);
        due("told(1)", book.told(1), 1);
        due("none", book.place(0, NONE), 2);
        due("none again", book.place(0, NONE), NONE);
        due("told(1) then", book.told(1), 0);
        due("undo", book.undo(), changes + 4);
        book.undo();
        due("in the tenor", book.singer(0, 5), 2);
    }

    private static void parts(ChoirBook book, int... due) {
        for (int i = 0; i < due.length; i++) {
            due("part of singer " + i + " of " + due.length, book.singer(i, 5), due[i]);
        }
    }

    private static ChoirBook choir(int... strengths) {
        ChoirBook book = new ChoirBook();
        for (int strength : strengths) {
            Check.join(book, strength, 170, "0-40");
        }
        return book;
    }

    private static void promise7PlaceAll() {
        ChoirBook book = new ChoirBook();
        due("nobody", book.placeAll(), 0);
        due("which is a change", book.told(8), 1);
        book = choir(5, 4, 3, 2, 6);
        // 20 in all, by fives: 5, 3 + 2, and then 4 and 6 cannot be parted more evenly.
        due("placeAll", book.placeAll(), 4);
        parts(book, 0, 1, 2, 2, 3);
        due("undo", book.undo(), 7);
        parts(book, NONE, NONE, NONE, NONE, NONE);
        book = choir(9, 8, 7, 6, 5, 4, 3, 2, 1, 3);
        due("all even", book.placeAll(), 12);
        for (int part = 0; part < 4; part++) {
            due("strength of " + part, book.part(part, 1), 12);
        }
        parts(book, 0, 1, 2, 3, 2, 1, 0, 3, 3, 3);
        book = choir(9, 9, 9, 9, 9, 9, 9, 9, 9, 9);
        due("all nines", book.placeAll(), 18);
        parts(book, 0, 0, 0, 1, 1, 1, 2, 2, 3, 3);
        book = choir(4, 4, 4, 4);
        Check.absent(book, "0 1");
        due("absent ones are placed too", book.placeAll(), 4);
        parts(book, 0, 1, 2, 3);
    }

    private static void promise7Ties() {
        ChoirBook book = choir(5);
        due("one", book.placeAll(), 0);
        parts(book, 0);
        book = choir(3, 3);
        due("two: the greatest strength is least", book.placeAll(), 0);
        parts(book, 0, 1);
        book = choir(1, 1, 1, 1, 1);
        due("five ones", book.placeAll(), 1);
        parts(book, 0, 0, 1, 2, 3);
        book = choir(1, 2, 3);
        due("three", book.placeAll(), 0);
        // 3 is the greatest strength at least: 1 and 2 can share the first part.
        parts(book, 0, 0, 1);
        book = choir(2, 5, 5, 5, 3);
        due("2 joins 3 or stands alone", book.placeAll(), 5);
        parts(book, 0, 1, 2, 3, 0);
    }

    private static void promise7WhoFitsCounts() {
        ChoirBook book = new ChoirBook();
        Check.join(book, 9, 170, "4-18");
        Check.join(book, 9, 170, "4-18");
        Check.joinPart(book, 1, 0);
        Check.join(book, 4, 170, "22-36");
        Check.text(book, "0-40!");
        book.test(2);
        due("placed where they do not fit", book.singer(2, 5), 0);
        due("placeAll", book.placeAll(), 0);
        parts(book, 3, 3, NONE, 0);
        due("told(1)", book.told(1), 3);
        book.set(0, 1);
        // The basses have 9 notes of the tenor and 3 of the alto; the soprano has 9 of the alto and 3 of the tenor.
        due("placeAll with wide parts", book.placeAll(), 0);
        parts(book, 1, 2, NONE, 0);
        book = new ChoirBook();
        for (int i = 0; i < 10; i++) {
            Check.join(book, 9, 170, "22-36");
        }
        due("ten sopranos", book.placeAll(), 0);
        due("strength 90", book.part(0, 1), 90);
        book.set(0, 9);
        due("or altos", book.placeAll(), 0);
        due("sopranos", book.part(0, 1), 45);
        due("altos", book.part(1, 1), 45);
        parts(book, 0, 0, 0, 0, 0, 1, 1, 1, 1, 1);
        book = new ChoirBook();
        for (int i = 0; i < 10; i++) {
            Check.join(book, 9, 170, "4-18");
        }
        due("ten basses", book.placeAll(), 0);
        due("their strength", book.part(3, 1), 90);
        book = new ChoirBook();
        Check.joinPart(book, 5, 1);
        Check.text(book, "0-40!");
        book.test(0);
        due("the only one fits nowhere", book.placeAll(), 0);
        parts(book, NONE);
    }

    private static void promise7Uneven() {
        for (int singers = 1; singers <= 10; singers++) {
            uneven(singers, "22-36", 0, "16-36", 1);
            uneven(singers, "10-24", 2, "4-24", 3);
        }
        eachInTheirPart();
    }

    /** Many who can sing one part only, behind one who can go to another part and has to. */
    private static void uneven(int singers, String tests, int part, String wide, int other) {
        ChoirBook book = new ChoirBook();
        for (int i = 0; i < singers; i++) {
            Check.join(book, 9, 170, tests);
        }
        due(singers + " in one part", book.placeAll(), 0);
        due("their strength", book.part(part, 1), 9 * singers);
        if (singers == 10) {
            return;
        }
        book = new ChoirBook();
        Check.join(book, 1, 170, wide);
        for (int i = 0; i < singers; i++) {
            Check.join(book, 9, 170, tests);
        }
        book.placeAll();
        due("the first of " + singers + " goes elsewhere", book.singer(0, 5), other);
        due("the strength of the others", book.part(part, 1), 9 * singers);
    }

    private static void eachInTheirPart() {
        ChoirBook book = new ChoirBook();
        for (int i = 0; i < 8; i++) {
            Check.join(book, 9, 170, "22-36");
        }
        Check.join(book, 1, 170, "16-36");
        Check.join(book, 1, 170, "16-36");
        book.placeAll();
        due("72 sopranos", book.part(0, 1), 72);
        parts(book, 0, 0, 0, 0, 0, 0, 0, 0, 1, 1);
        book = new ChoirBook();
        Check.join(book, 1, 170, "16-36");
        Check.join(book, 1, 170, "10-36");
        for (int i = 0; i < 8; i++) {
            Check.join(book, 9, 170, "4-18");
        }
        book.placeAll();
        due("72 basses", book.part(3, 1), 72);
        parts(book, 0, 0, 3, 3, 3, 3, 3, 3, 3, 3);
        book = new ChoirBook();
        for (int i = 0; i < 7; i++) {
            Check.join(book, 9, 170, "16-30");
        }
        Check.join(book, 1, 170, "16-36");
        Check.join(book, 1, 170, "10-30");
        Check.join(book, 1, 170, "4-30");
        // 63 altos, and the others one each.
        due("all parts have one", book.placeAll(), 1);
        parts(book, 1, 1, 1, 1, 1, 1, 1, 0, 2, 3);
        book = new ChoirBook();
        Check.join(book, 9, 170, "22-36");
        Check.join(book, 2, 170, "16-30");
        Check.join(book, 8, 170, "10-24");
        Check.join(book, 3, 170, "4-18");
        due("each in their only part", book.placeAll(), 2);
        parts(book, 0, 1, 2, 3);
        Check.join(book, 1, 170, "0-40");
        due("another", book.placeAll(), 3);
        parts(book, 0, 1, 2, 3, 1);
        Check.join(book, 2, 170, "16-36");
        due("and another", book.placeAll(), 4);
        parts(book, 0, 1, 2, 3, 3, 1);
    }

    private static void promise8Attendance() {
        ChoirBook book = new ChoirBook();
        due("no singers, no words", book.attendance(), 0);
        due("a change", book.told(8), 1);
        Check.text(book, "0");
        due("no such singer", book.attendance(), STATE);
        due("no change", book.told(8), 1);
        due("kind", book.fault(0), 2);
        book.add(1, 100);
        book.add(2, 100);
        book.add(3, 100);
        Check.text(book, " 2  0 00 2 ");
        due("twice the same", book.attendance(), 2);
        due("the text stays", book.told(7), 11);
        due("told(3)", book.told(3), 2);
        due("0 is absent", book.singer(0, 6), 0);
        due("1 is present", book.singer(1, 6), 1);
        due("2 is absent", book.singer(2, 6), 0);
        Check.text(book, "1");
        due("all others are present", book.attendance(), 1);
        due("0 is present", book.singer(0, 6), 1);
        due("1 is absent", book.singer(1, 6), 0);
        due("2 is present", book.singer(2, 6), 1);
        Check.text(book, "0 3");
        due("3 does not exist", book.attendance(), STATE);
        due("0 is still present", book.singer(0, 6), 1);
        due("1 is still absent", book.singer(1, 6), 0);
        book.undo();
        due("undone", book.told(3), 2);
    }

    private static void promise9Hold() {
        ChoirBook book = new ChoirBook();
        due("no singers", book.hold(), STATE);
        due("no change", book.told(8), 0);
        book.add(5, 170);
        due("nobody is placed", book.hold(), 0);
        due("a change", book.told(8), 2);
        due("told(2)", book.told(2), 1);
        for (int part = 0; part < 4; part++) {
            due("weak for " + part, book.part(part, 3), 1);
            due("no solo in " + part, book.solo(0, part), NONE);
        }
        Check.text(book, "0-40");
        book.test(0);
        book.place(0, 2);
        Check.absent(book, "0");
        due("absent: no solo", book.hold(), 0);
        due("present again", book.singer(0, 6), 1);
        due("weak though placed", book.part(2, 3), 2);
        due("now", book.hold(), 1);
        due("not weak", book.part(2, 3), 2);
        due("weak", book.part(1, 3), 3);
        due("solo(2, 2)", book.solo(2, 2), 0);
        due("solo(1, 2)", book.solo(1, 2), NONE);
        due("their solos", book.singer(0, 7), 1);
        due("their latest", book.singer(0, 8), 2);
        due("all solos", book.told(5), 1);
        book.undo();
        due("undone: their solos", book.singer(0, 7), 0);
        due("undone: their latest", book.singer(0, 8), NONE);
        due("undone: all solos", book.told(5), 0);
        due("undone: weak", book.part(1, 3), 2);
        due("undone: rehearsals", book.told(2), 2);
        due("undone: solo", book.solo(2, 2), BAD);
        book.undo();
        due("undone: absent", book.singer(0, 6), 0);
    }

    private static void promise9StandIns() {
        ChoirBook book = new ChoirBook();
        Check.joinPart(book, 3, 0);
        Check.joinPart(book, 5, 1);
        Check.joinPart(book, 5, 1);
        // 1 stands in for the soprano, which then can give 0 to the tenor; 2 must stay in the alto.
        due("standIn(0)", book.standIn(0), 2);
        due("standIn(1)", book.standIn(1), 0);
        due("standIn(2)", book.standIn(2), NONE);
        due("only 2 has a solo", book.hold(), 1);
        due("the soprano has none", book.solo(0, 0), NONE);
        due("the alto", book.solo(0, 1), 2);
        due("the tenor has none", book.solo(0, 2), NONE);
        due("told(6)", book.told(6), 2);
        int[] times = {1, 1, 0};
        int[] weak = {0, 0, 1, 1};
        for (int i = 0; i < 3; i++) {
            due("stood in: " + i, book.singer(i, 9), times[i]);
        }
        for (int part = 0; part < 4; part++) {
            due("weak for " + part, book.part(part, 3), weak[part]);
        }
        due("who stood in is placed as before", book.singer(1, 5), 1);
        Check.absent(book, "1");
        due("without 1: nobody", book.standIn(0), NONE);
        due("an absent one does not", book.standIn(1), NONE);
        due("who is needed does not", book.standIn(2), NONE);
        book.hold();
        due("told(6) as before", book.told(6), 2);
        due("weak now", book.part(0, 3), 1);
    }

    private static void promise9StandInsKeepTheirPartCovered() {
        ChoirBook book = new ChoirBook();
        Check.joinPart(book, 2, 3);
        Check.joinPart(book, 9, 3);
        Check.joinPart(book, 2, 3);
        Check.join(book, 9, 170, "4-18");
        book.place(3, 3);
        Check.join(book, 9, 170, "0-40");
        // The soprano asks 0, 1 and then stops; the alto asks 2, and 3 does not fit; 4 is in no part.
        int[] due = {0, 0, 1, NONE, NONE};
        for (int i = 0; i < 5; i++) {
            due("standIn(" + i + ")", book.standIn(i), due[i]);
        }
        book.hold();
        int[] weak = {0, 1, 1, 0};
        for (int part = 0; part < 4; part++) {
            due("weak for " + part, book.part(part, 3), weak[part]);
        }
        book.set(1, 9);
        // Now 0 and 1 are 11, so that the part of 3 keeps 11 by 2 and 3 and gives 2; 9 are left.
        due("standIn(2) with 9", book.standIn(2), 1);
        book.set(1, 10);
        due("standIn(0) with 10", book.standIn(0), 0);
        due("standIn(1) with 10", book.standIn(1), 0);
        due("standIn(2) with 10: needed", book.standIn(2), NONE);
    }

    private static void promise9Solos() {
        ChoirBook book = new ChoirBook();
        Check.joinPart(book, 5, 0);
        Check.joinPart(book, 5, 0);
        Check.joinPart(book, 5, 0);
        // No part is covered, so that nobody can stand in.
        book.set(1, 50);
        book.set(2, 0);
        int[] due = {0, 1, 2, 0, 1, 2};
        for (int rehearsal = 0; rehearsal < 6; rehearsal++) {
            due("part(0, 5) ahead of " + rehearsal, book.part(0, 5), due[rehearsal]);
            due("hold " + rehearsal, book.hold(), 1);
            due("solo(" + rehearsal + ", 0)", book.solo(rehearsal, 0), due[rehearsal]);
        }
        due("told(5)", book.told(5), 6);
        // 3 is new: the fewest solos come first, until they have as many.
        Check.joinPart(book, 5, 0);
        book.hold();
        due("the new one", book.solo(6, 0), 3);
        book.hold();
        due("the new one again", book.solo(7, 0), 3);
        book.hold();
        due("of as many solos the one longest ago", book.solo(8, 0), 0);
        Check.absent(book, "1");
        book.hold();
        due("1 is absent", book.solo(9, 0), 2);
        book.hold();
        due("1 has fewest, with 3, and the one longest ago", book.solo(10, 0), 1);
        book.hold();
        due("3 is the only one with 2", book.solo(11, 0), 3);
    }

    private static void promise9WhoComesFirst() {
        ChoirBook book = new ChoirBook();
        Check.joinPart(book, 5, 2);
        Check.joinPart(book, 5, 2);
        book.set(1, 50);
        book.set(2, 0);
        String[] absent = {"0", "", "", "1", "1", "1", "", "", ""};
        // By turns while they have as many; then 0 gets two more, and 1 comes first until they have as many again.
        int[] due = {1, 0, 1, 0, 0, 0, 1, 1, 0};
        for (int rehearsal = 0; rehearsal < due.length; rehearsal++) {
            Check.absent(book, absent[rehearsal]);
            book.hold();
            due("by turns: solo(" + rehearsal + ", 2)", book.solo(rehearsal, 2), due[rehearsal]);
        }
    }

    private static void promise9Pause() {
        ChoirBook fresh = new ChoirBook();
        Check.joinPart(fresh, 5, 0);
        Check.joinPart(fresh, 5, 0);
        fresh.set(1, 50);
        fresh.set(2, 10);
        due("the longest pause does not hold for the first solo", fresh.hold(), 1);
        due("nor for another's", fresh.hold(), 1);
        due("but behind it", fresh.hold(), 0);
        ChoirBook book = new ChoirBook();
        Check.joinPart(book, 5, 3);
        book.set(2, 2);
        int[] due = {0, NONE, NONE, 0, NONE, NONE, 0};
        for (int rehearsal = 0; rehearsal < due.length; rehearsal++) {
            due("pause 2: hold", book.hold(), due[rehearsal] == 0 ? 1 : 0);
            due("pause 2: solo(" + rehearsal + ", 3)", book.solo(rehearsal, 3), due[rehearsal]);
        }
        book.set(2, 0);
        due("pause 0", book.hold(), 1);
        due("pause 0 again", book.hold(), 1);
        book.set(2, 10);
        for (int i = 0; i < 10; i++) {
            due("pause 10", book.hold(), 0);
        }
        due("behind pause 10", book.hold(), 1);
    }

    private static void promise9Limit() {
        ChoirBook book = new ChoirBook();
        Check.joinPart(book, 5, 1);
        for (int rehearsal = 0; rehearsal < 40; rehearsal++) {
            due("hold " + rehearsal, book.hold(), 1 - rehearsal % 2);
        }
        due("told(2)", book.told(2), 40);
        due("solo(39, 1)", book.solo(39, 1), NONE);
        due("solo(38, 1)", book.solo(38, 1), 0);
        due("weak", book.part(0, 3), 40);
        due("the 41st", book.hold(), FULL);
        due("part(1, 5) as if it could be held", book.part(1, 5), 0);
        due("passedOver(0) as if it could be held", book.passedOver(0), 0);
        book.set(1, 2);
        Check.joinPart(book, 5, 1);
        due("standIn(0) as if it could be held", book.standIn(0), 0);
        due("standIn(1) as if it could be held", book.standIn(1), NONE);
        book.remove(0);
        book.remove(0);
        due("STATE comes before FULL", book.hold(), STATE);
        due("told(2) still", book.told(2), 40);
        due("FULL and STATE are no changes", book.undo(), 7);
        due("the singer is there", book.told(0), 1);
    }

    private static void promise10Undo() {
        ChoirBook book = new ChoirBook();
        due("none", book.undo(), STATE);
        book.add(1, 100);
        due("undo add", book.undo(), 0);
        due("nobody", book.told(0), 0);
        due("none again", book.undo(), STATE);
        for (int value = 1; value <= 12; value++) {
            book.set(1, value);
            due("told(8) behind " + value, book.told(8), Math.min(value, 8));
        }
        for (int left = 7; left >= 0; left--) {
            due("undo to " + left, book.undo(), left);
            due("setting(1)", book.setting(1), left + 4);
        }
        due("the oldest were dropped", book.undo(), STATE);
        due("setting(1) stays", book.setting(1), 4);
        for (int value = 20; value <= 30; value++) {
            book.set(1, value);
        }
        book.undo();
        book.undo();
        book.set(1, 40);
        due("undo of the new one", book.undo(), 6);
        due("setting(1) before it", book.setting(1), 28);
        due("undo of an older one", book.undo(), 5);
        due("setting(1) before that", book.setting(1), 27);
    }

    private static void promise10WhatIsNotUndone() {
        ChoirBook book = new ChoirBook();
        book.add(1, 100);
        Check.text(book, "5x");
        book.test(0);
        book.keep(0);
        book.set(0, 3);
        due("undo", book.undo(), 1);
        due("undo add", book.undo(), 0);
        due("the text stays", book.told(7), 2);
        due("the fault stays", book.fault(0), 1);
        due("its place stays", book.fault(1), 1);
        due("the image stays", book.back(0), 1);
        due("behind undo that is a change", book.told(8), 1);
        due("write is none", book.write(48), 3);
        due("wipe is none", book.wipe(), 3);
        due("keep is none", book.keep(1), 1);
        due("told(8)", book.told(8), 1);
    }
}
