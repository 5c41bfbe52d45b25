/** Promises 14 to 22: what is told. */
public final class ToldTest {
    private static final int BAD = ChoirBook.BAD, NONE = ChoirBook.NONE;
    private static final Check CHECK = new Check("ToldTest");

    public static void main(String[] args) {
        promise14Told();
        promise15Setting();
        promise16Singer();
        promise17Note();
        promise18Overlap();
        promise19Part();
        promise20Seat();
        promise20HeightsAndRows();
        promise21Solo();
        promise22Mean();
        CHECK.end();
    }

    private static void due(String call, long got, long want) {
        CHECK.due(call, got, want);
    }

    private static void promise14Told() {
        ChoirBook book = new ChoirBook();
        Check.joinPart(book, 5, 0);
        Check.joinPart(book, 4, 1);
        Check.joinPart(book, 2, 1);
        Check.joinPart(book, 9, 3);
        book.add(9, 170);
        Check.absent(book, "3 4");
        Check.text(book, "abc");
        int[] told = {5, 4, 0, 2, 3, 0, 0, 3, 8};
        for (int what = 0; what < told.length; what++) {
            due("told(" + what + ")", book.told(what), told[what]);
        }
        due("told(-1)", book.told(-1), BAD);
        due("told(9)", book.told(9), BAD);
        due("told(MIN)", book.told(Integer.MIN_VALUE), BAD);
        book.set(1, 6);
        due("covered by 6", book.told(4), 2);
        book.set(1, 7);
        due("covered by 7", book.told(4), 0);
        Check.absent(book, "");
        due("all are present", book.told(4), 8);
        book.set(1, 1);
        due("covered by 1: not who is in none", book.told(4), 11);
        book.hold();
        due("rehearsals", book.told(2), 1);
        due("absent", book.told(3), 0);
        due("solos", book.told(5), 3);
        // 1 could come from the alto, which has 6.
        due("stand-ins", book.told(6), 1);
        due("and covered without stand-ins", book.told(4), 11);
        book.hold();
        due("stand-ins of both", book.told(6), 2);
    }

    private static void promise15Setting() {
        ChoirBook book = new ChoirBook();
        due("setting(-1)", book.setting(-1), BAD);
        due("setting(4)", book.setting(4), BAD);
        due("setting(MAX)", book.setting(Integer.MAX_VALUE), BAD);
        book.set(0, 7);
        book.set(1, 8);
        book.set(2, 9);
        book.set(3, 6);
        int[] settings = {7, 8, 9, 6};
        for (int i = 0; i < 4; i++) {
            due("setting(" + i + ")", book.setting(i), settings[i]);
        }
        due("asking is no change", book.told(8), 4);
    }

    private static void promise16Singer() {
        ChoirBook book = new ChoirBook();
        Check.join(book, 7, 181, "10-30 20! 40");
        due("singer(-1, 0)", book.singer(-1, 0), BAD);
        due("singer(1, 0)", book.singer(1, 0), BAD);
        due("singer(0, -1)", book.singer(0, -1), BAD);
        due("singer(0, 10)", book.singer(0, 10), BAD);
        due("strength", book.singer(0, 0), 7);
        due("height", book.singer(0, 1), 181);
        due("lowest", book.singer(0, 2), 10);
        due("highest", book.singer(0, 3), 19);
        due("no part fits", book.singer(0, 4), 0);
        book.set(0, 10);
        due("the tenor, by 10", book.singer(0, 4), 4);
        book.set(0, 9);
        due("the bass too, by 9", book.singer(0, 4), 12);
        book.set(0, 4);
        due("the alto too, by 4", book.singer(0, 4), 14);
        book.set(0, 1);
        due("the soprano not", book.singer(0, 4), 14);
        due("in none", book.singer(0, 5), NONE);
        book.place(0, 3);
        due("in the bass", book.singer(0, 5), 3);
        due("present", book.singer(0, 6), 1);
        Check.absent(book, "0");
        due("absent", book.singer(0, 6), 0);
        due("solos", book.singer(0, 7), 0);
        due("no solo", book.singer(0, 8), NONE);
        book.hold();
        book.hold();
        due("one solo", book.singer(0, 7), 1);
        due("in the rehearsal 1", book.singer(0, 8), 1);
        book.set(2, 0);
        book.hold();
        due("two solos", book.singer(0, 7), 2);
        due("in the rehearsal 2", book.singer(0, 8), 2);
        due("stood in never", book.singer(0, 9), 0);
        Check.join(book, 9, 170, "0-40");
        book.place(1, 3);
        // The soprano does not fit 0; 1 can go, and then 0 is needed in the bass.
        book.hold();
        due("1 stood in", book.singer(1, 9), 1);
        book.hold();
        due("1 stood in again", book.singer(1, 9), 2);
        due("0 did not", book.singer(0, 9), 0);
        due("all fit", book.singer(1, 4), 15);
        due("lowest 0", book.singer(1, 2), 0);
        due("highest 40", book.singer(1, 3), 40);
    }

    private static void promise17Note() {
        ChoirBook book = new ChoirBook();
        Check.join(book, 5, 170, "0 7! 33-40");
        due("note(-1, 0)", book.note(-1, 0), BAD);
        due("note(1, 0)", book.note(1, 0), BAD);
        due("note(0, -1)", book.note(0, -1), BAD);
        due("note(0, 41)", book.note(0, 41), BAD);
        due("note(0, 64)", book.note(0, 64), BAD);
        due("note(0, 0)", book.note(0, 0), 1);
        due("note(0, 1)", book.note(0, 1), NONE);
        due("note(0, 7)", book.note(0, 7), 0);
        due("note(0, 32)", book.note(0, 32), NONE);
        due("note(0, 33)", book.note(0, 33), 1);
        due("note(0, 40)", book.note(0, 40), 1);
        Check.text(book, "0! 7");
        book.test(0);
        due("note(0, 0) then", book.note(0, 0), 0);
        due("note(0, 7) then", book.note(0, 7), 1);
    }

    private static void promise18Overlap() {
        ChoirBook book = new ChoirBook();
        book.add(5, 170);
        due("overlap(-1, 0)", book.overlap(-1, 0), BAD);
        due("overlap(1, 0)", book.overlap(1, 0), BAD);
        due("overlap(0, -1)", book.overlap(0, -1), BAD);
        due("overlap(0, 4)", book.overlap(0, 4), BAD);
        for (int part = 0; part < 4; part++) {
            due("of an empty range", book.overlap(0, part), 0);
        }
        overlaps("0-40", 15, 15, 15, 15);
        overlaps("22-36", 15, 9, 3, 0);
        overlaps("16-30", 9, 15, 9, 3);
        overlaps("10-24", 3, 9, 15, 9);
        overlaps("4-18", 0, 3, 9, 15);
        overlaps("0-3", 0, 0, 0, 0);
        overlaps("0-4", 0, 0, 0, 1);
        overlaps("37-40", 0, 0, 0, 0);
        overlaps("36-40", 1, 0, 0, 0);
        overlaps("18", 0, 1, 1, 1);
        overlaps("19", 0, 1, 1, 0);
        overlaps("21-22", 1, 2, 2, 0);
        overlaps("0-5 8-30", 9, 15, 15, 11);
    }

    private static void overlaps(String tests, int... due) {
        ChoirBook book = new ChoirBook();
        Check.join(book, 5, 170, tests);
        for (int part = 0; part < 4; part++) {
            due("overlap of " + tests + " with " + part, book.overlap(0, part), due[part]);
        }
    }

    private static void promise19Part() {
        ChoirBook book = new ChoirBook();
        Check.joinPart(book, 3, 1);
        Check.joinPart(book, 4, 1);
        Check.joinPart(book, 9, 2);
        Check.absent(book, "1");
        due("part(-1, 0)", book.part(-1, 0), BAD);
        due("part(4, 0)", book.part(4, 0), BAD);
        due("part(0, -1)", book.part(0, -1), BAD);
        due("part(0, 6)", book.part(0, 6), BAD);
        due("singers", book.part(1, 0), 2);
        due("strength", book.part(1, 1), 7);
        due("of those present", book.part(1, 2), 3);
        due("weak", book.part(1, 3), 0);
        due("rows", book.part(1, 4), 1);
        due("rows of an empty part", book.part(3, 4), 0);
        due("solo", book.part(1, 5), 0);
        due("solo of an empty part", book.part(0, 5), NONE);
        book.hold();
        due("weak then", book.part(1, 3), 1);
        due("the tenor was not", book.part(2, 3), 0);
        due("all are present", book.part(1, 2), 7);
        // 0 is needed less than 1: neither can go from 7, though, without the alto falling below 5.
        due("solo of 1", book.part(1, 5), 1);
        book.set(3, 1);
        due("rows of width 1", book.part(1, 4), 2);
        book.set(1, 3);
        due("0 would stand in", book.standIn(0), 0);
        due("solo of who is left", book.part(1, 5), 1);
        due("the tenor had its solo", book.part(2, 5), NONE);
    }

    private static void promise20Seat() {
        ChoirBook book = new ChoirBook();
        Check.joinPart(book, 5, 180, 1);
        Check.joinPart(book, 5, 160, 1);
        Check.joinPart(book, 5, 170, 3);
        book.add(5, 150);
        due("seat(-1, 0)", book.seat(-1, 0), BAD);
        due("seat(4, 0)", book.seat(4, 0), BAD);
        due("seat(0, -1)", book.seat(0, -1), BAD);
        due("seat(0, 2)", book.seat(0, 2), BAD);
        due("in none", book.seat(3, 0), NONE);
        due("in none, seat", book.seat(3, 1), NONE);
        due("BAD comes before NONE", book.seat(3, 2), BAD);
        due("the smaller one's row", book.seat(1, 0), 0);
        due("the smaller one's seat", book.seat(1, 1), 0);
        due("the taller one's row", book.seat(0, 0), 0);
        due("the taller one's seat", book.seat(0, 1), 1);
        due("the bass begins a row", book.seat(2, 0), 1);
        due("in the middle", book.seat(2, 1), 0);
        Check.absent(book, "1");
        due("an absent one keeps the seat", book.seat(0, 1), 1);
        book.place(2, 0);
        due("the soprano comes first", book.seat(2, 0), 0);
        due("and the alto behind it", book.seat(1, 0), 1);
    }

    private static void promise20HeightsAndRows() {
        ChoirBook book = new ChoirBook();
        int[] heights = {170, 165, 170, 160, 170, 165, 180, 160};
        for (int height : heights) {
            Check.joinPart(book, 5, height, 2);
        }
        Check.joinPart(book, 5, 100, 3);
        // Their order: 3, 7, 1, 5, 0, 2, 4, 6.
        int[] places = {4, 2, 5, 0, 6, 3, 7, 1};
        int[] seats = {0, 1, -1, 2, -2, 3};
        for (int width = 1; width <= 6; width++) {
            book.set(3, width);
            for (int i = 0; i < places.length; i++) {
                due("row of " + i + ", width " + width, book.seat(i, 0), places[i] / width);
                due("seat of " + i + ", width " + width, book.seat(i, 1), seats[places[i] % width]);
            }
            int rows = (places.length + width - 1) / width;
            due("rows, width " + width, book.part(2, 4), rows);
            due("the bass behind them, width " + width, book.seat(8, 0), rows);
        }
    }

    private static void promise21Solo() {
        ChoirBook book = new ChoirBook();
        Check.joinPart(book, 5, 0);
        Check.joinPart(book, 5, 3);
        due("solo(0, 0) ahead", book.solo(0, 0), BAD);
        book.hold();
        due("solo(-1, 0)", book.solo(-1, 0), BAD);
        due("solo(1, 0)", book.solo(1, 0), BAD);
        due("solo(0, -1)", book.solo(0, -1), BAD);
        due("solo(0, 4)", book.solo(0, 4), BAD);
        due("solo(0, 0)", book.solo(0, 0), 0);
        due("solo(0, 1)", book.solo(0, 1), NONE);
        due("solo(0, 3)", book.solo(0, 3), 1);
        Check.absent(book, "0");
        book.hold();
        due("solo(1, 0)", book.solo(1, 0), NONE);
        due("solo(1, 3): the pause", book.solo(1, 3), NONE);
        book.hold();
        due("solo(2, 3)", book.solo(2, 3), 1);
        book.remove(0);
        due("solo(2, 3), by the number of then", book.solo(2, 3), 1);
        due("solo(0, 0), of one removed", book.solo(0, 0), 0);
        book.undo();
        book.undo();
        due("undone: solo(2, 3)", book.solo(2, 3), BAD);
        due("solo(0, 3) still", book.solo(0, 3), 1);
    }

    private static void promise22Mean() {
        ChoirBook book = new ChoirBook();
        CHECK.dueFloat("mean of none", book.mean(), 0f);
        book.add(9, 170);
        CHECK.dueFloat("mean of none who is placed", book.mean(), 0f);
        Check.joinPart(book, 1, 0);
        CHECK.dueFloat("mean of 1", book.mean(), 0.25f);
        Check.joinPart(book, 2, 3);
        CHECK.dueFloat("mean of 3", book.mean(), 0.75f);
        Check.joinPart(book, 9, 1);
        CHECK.dueFloat("mean of 12", book.mean(), 3f);
        Check.joinPart(book, 9, 2);
        CHECK.dueFloat("mean of 21", book.mean(), 5.25f);
        Check.absent(book, "1 2 3");
        CHECK.dueFloat("absent ones count", book.mean(), 5.25f);
        due("asking is no change", book.told(8), 8);
    }
}
