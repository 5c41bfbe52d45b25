import java.util.Arrays;

/**
 * The edges of the rules in the document's description, a method for each sentence that names one:
 * SINGERS AND TESTS, PARTS, PLACING, REHEARSALS, SOLOS and SEATS. (CONVENTIONS: RefusedTest; THE TEXT
 * and CHANGES: TextAndChangesEdgeTest.)
 */
public final class RulesEdgeTest {
    private static final int BAD = ChoirBook.BAD, STATE = ChoirBook.STATE, FULL = ChoirBook.FULL, NONE = ChoirBook.NONE;
    private static final Check CHECK = new Check("RulesEdgeTest");

    public static void main(String[] args) {
        theLastOf512Calls();
        singers();
        notes();
        parts();
        placing();
        rehearsals();
        standIns();
        solos();
        seats();
        CHECK.end();
    }

    private static void due(String call, long got, long want) {
        CHECK.due(call, got, want);
    }

    private static ChoirBook of(String... tests) {
        ChoirBook book = new ChoirBook();
        for (String one : tests) {
            Check.join(book, 5, 170, one);
        }
        return book;
    }

    private static void members(ChoirBook book, int part, int... strengths) {
        for (int strength : strengths) {
            Check.joinPart(book, strength, part);
        }
    }

    private static void partsAre(String when, ChoirBook book, int... due) {
        for (int i = 0; i < due.length; i++) {
            due(when + ": part of " + i, book.singer(i, 5), due[i]);
        }
    }

    private static void standInsAre(String when, ChoirBook book, int... due) {
        for (int i = 0; i < due.length; i++) {
            due(when + ": standIn(" + i + ")", book.standIn(i), due[i]);
        }
    }

    private static void weakAre(String when, ChoirBook book, int... due) {
        for (int part = 0; part < 4; part++) {
            due(when + ": weak for " + part, book.part(part, 3), due[part]);
        }
    }

    // "An object is used for at most 512 calls after it has been made"
    private static void theLastOf512Calls() {
        ChoirBook book = new ChoirBook();
        for (int call = 1; call <= 510; call++) {
            due("call " + call, book.set(1, 1 + call % 50), call == 1 ? 5 : 1 + (call - 1) % 50);
        }
        due("call 511", book.undo(), 7);
        due("call 512", book.setting(1), 10);
    }

    // ---- SINGERS AND TESTS

    private static void singers() {
        atMostTenNumberedFromZero();
        removedAmongFour(0, 1, 2, 3);
        removedAmongFour(1, 0, 2, 3);
        removedAmongFour(2, 0, 1, 3);
        removedAmongFour(3, 0, 1, 2);
        allThatIsKnownMovesWithTheNumber();
        strengthsAndHeights();
    }

    // "There are at most 10 singers, numbered from 0 in the order in which they were added"
    private static void atMostTenNumberedFromZero() {
        ChoirBook book = new ChoirBook();
        for (int number = 0; number < 10; number++) {
            due("none yet", book.singer(number, 0), BAD);
            due("singer " + number, book.add(1 + number % 9, 100 + number), number);
            due("their height", book.singer(number, 1), 100 + number);
        }
        due("the eleventh", book.add(5, 170), FULL);
        due("removed from ten", book.remove(9), 9);
        due("the tenth again", book.add(5, 200), 9);
        due("the eleventh again", book.add(5, 170), FULL);
        due("removed", book.remove(0), 9);
        due("nine are left", book.singer(9, 0), BAD);
        due("number 9 is free", book.add(5, 201), 9);
        due("8 was 9", book.singer(8, 1), 200);
    }

    // "if one is removed, the numbers of later ones decrease by 1"
    private static void removedAmongFour(int removed, int... left) {
        ChoirBook book = new ChoirBook();
        for (int number = 0; number < 4; number++) {
            book.add(1 + number, 100 + number);
        }
        due("remove(" + removed + ")", book.remove(removed), 3);
        for (int number = 0; number < 3; number++) {
            due("strength of " + number + " without " + removed, book.singer(number, 0), 1 + left[number]);
            due("height of " + number + " without " + removed, book.singer(number, 1), 100 + left[number]);
        }
        due("no 3 without " + removed, book.singer(3, 0), BAD);
    }

    private static void allThatIsKnownMovesWithTheNumber() {
        ChoirBook book = new ChoirBook();
        book.add(1, 100);
        Check.join(book, 2, 101, "4-20 3!");
        Check.join(book, 9, 102, "3-36");
        book.place(1, 3);
        book.place(2, 3);
        book.hold();
        book.hold();
        Check.absent(book, "2");
        book.remove(0);
        int[] bass = {2, 101, 4, 20, 8, 3, 1, 1, 0, 0};
        int[] other = {9, 102, 3, 36, 15, 3, 0, 1, 1, 0};
        for (int what = 0; what < 10; what++) {
            due("1, now 0: singer(0, " + what + ")", book.singer(0, what), bass[what]);
            due("2, now 1: singer(1, " + what + ")", book.singer(1, what), other[what]);
        }
        due("1, now 0: a note that they cannot sing", book.note(0, 3), 0);
        due("2, now 1: a note that they can sing", book.note(1, 3), 1);
        due("1, now 0: seat", book.seat(0, 1), 0);
        due("2, now 1: seat", book.seat(1, 1), 1);
    }

    // "A singer has a strength from 1 to 9 and a height from 100 to 220."
    private static void strengthsAndHeights() {
        ChoirBook book = new ChoirBook();
        due("strength 0", book.add(0, 100), BAD);
        due("strength 1", book.add(1, 100), 0);
        due("strength 9", book.add(9, 100), 1);
        due("strength 10", book.add(10, 100), BAD);
        due("height 99", book.add(1, 99), BAD);
        due("height 100", book.add(1, 100), 2);
        due("height 220", book.add(1, 220), 3);
        due("height 221", book.add(1, 221), BAD);
        due("four of them", book.told(0), 4);
    }

    private static void notes() {
        notesFrom0To40();
        theLatestTestCounts();
        rangeIs("nothing was tested", "", NONE, NONE, 0);
        rangeIs("nothing can be sung", "0-40!", NONE, NONE, 0);
        rangeIs("the lowest note alone", "0", 0, 0, 1);
        rangeIs("the highest note alone", "40", 40, 40, 1);
        rangeIs("all notes", "0-40", 0, 40, 41);
        rangeIs("all but the lowest", "0-40 0!", 1, 40, 40);
        rangeIs("all but the highest", "0-40 40!", 0, 39, 40);
        rangeIs("two rows as long, at both ends", "0-1 39-40", 0, 1, 2);
        rangeIs("the longer one at the upper end", "0-1 38-40", 38, 40, 3);
        rangeIs("the longer one at the lower end", "0-2 39-40", 0, 2, 3);
        rangeIs("as long, parted by one that was not tested", "5-9 11-15", 5, 9, 5);
        rangeIs("as long, parted by one that cannot be sung", "5-15 10!", 5, 9, 5);
        rangeIs("as long, the upper one tested first", "11-15 5-9", 5, 9, 5);
        rangeIs("three as long", "1-2 10-11 30-31", 1, 2, 2);
        rangeIs("the middle one is longer", "1-2 10-12 30-31", 10, 12, 3);
        rangeIs("single notes", "40 38 36 7 5", 5, 5, 1);
        rangeIs("parted, and joined again", "3-9 6! 6", 3, 9, 7);
        aRangeCanBecomeEmptyAgain();
    }

    // "Notes are told by 0 to 40."
    private static void notesFrom0To40() {
        ChoirBook book = of("0 40!");
        due("note -1", book.note(0, -1), BAD);
        due("note 0", book.note(0, 0), 1);
        due("note 1", book.note(0, 1), NONE);
        due("note 39", book.note(0, 39), NONE);
        due("note 40", book.note(0, 40), 0);
        due("note 41", book.note(0, 41), BAD);
    }

    // "the latest test of a note counts"
    private static void theLatestTestCounts() {
        ChoirBook book = of("7 7!", "7! 7", "0-40! 40", "0-40 0!");
        due("can, then cannot", book.note(0, 7), 0);
        due("cannot, then can", book.note(1, 7), 1);
        due("the highest at last", book.singer(2, 2), 40);
        due("the lowest not at last", book.singer(3, 2), 1);
        Check.text(book, "7");
        due("by a later text", book.test(0), 1);
        due("known then", book.note(0, 7), 1);
    }

    // "The range of a singer is the longest row of notes one above the other that they can sing (by their tests);
    // of several rows as long the lowest one; it is empty if there is no such note."
    private static void rangeIs(String when, String tests, int lowest, int highest, int notes) {
        ChoirBook book = of("");
        Check.text(book, tests);
        due(when + ": notes", book.test(0), notes);
        due(when + ": lowest", book.singer(0, 2), lowest);
        due(when + ": highest", book.singer(0, 3), highest);
    }

    private static void aRangeCanBecomeEmptyAgain() {
        ChoirBook book = of("12");
        due("lowest", book.singer(0, 2), 12);
        Check.text(book, "12!");
        due("empty again", book.test(0), 0);
        due("lowest of none", book.singer(0, 2), NONE);
        due("highest of none", book.singer(0, 3), NONE);
        due("but it was tested", book.note(0, 12), 0);
    }

    // ---- PARTS

    private static void parts() {
        partNeeds(0, 22, 36);
        partNeeds(1, 16, 30);
        partNeeds(2, 10, 24);
        partNeeds(3, 4, 18);
        for (int part = 0; part < 4; part++) {
            fitsBySoMany(part);
        }
        anEmptyRangeFitsNowhere();
        onlyTheRangeCounts();
        settingIs(0, 1, 15, 12);
        settingIs(1, 1, 50, 5);
        settingIs(2, 0, 10, 1);
        settingIs(3, 1, 6, 4);
    }

    // "soprano 22 to 36, alto 16 to 30, tenor 10 to 24, bass 4 to 18"
    private static void partNeeds(int part, int lowest, int highest) {
        ChoirBook book = of("" + (lowest - 1), "" + lowest, "" + highest, "" + (highest + 1), lowest + "-" + highest,
                (lowest - 1) + "-" + (highest + 1), (lowest + 1) + "-" + (highest - 1));
        int[] notes = {0, 1, 1, 0, 15, 15, 13};
        for (int singer = 0; singer < notes.length; singer++) {
            due("overlap(" + singer + ", " + part + ")", book.overlap(singer, part), notes[singer]);
        }
    }

    // "A part fits a singer if their range contains at least so many of these 15 notes as the setting 0 tells."
    private static void fitsBySoMany(int part) {
        int lowest = 22 - 6 * part;
        for (int notes = 1; notes <= 15; notes++) {
            String name = notes + " notes of part " + part;
            ChoirBook book = of("0-" + (lowest + notes - 1), (lowest + 15 - notes) + "-40");
            book.set(0, notes);
            due(name + ", from below, as many as needed", book.singer(0, 4) >> part & 1, 1);
            due(name + ", from above, as many as needed", book.singer(1, 4) >> part & 1, 1);
            due(name + ": place", book.place(0, part), NONE);
            if (notes < 15) {
                book.set(0, notes + 1);
                due(name + ", from below, one is missing", book.singer(0, 4) >> part & 1, 0);
                due(name + ", from above, one is missing", book.singer(1, 4) >> part & 1, 0);
                due(name + ", one is missing: place", book.place(1, part), STATE);
            }
        }
    }

    private static void anEmptyRangeFitsNowhere() {
        ChoirBook book = of("", "0-40!", "37-40", "0-3");
        book.set(0, 1);
        for (int singer = 0; singer < 4; singer++) {
            due("parts of " + singer, book.singer(singer, 4), 0);
            for (int part = 0; part < 4; part++) {
                due("overlap(" + singer + ", " + part + ")", book.overlap(singer, part), 0);
                due("place(" + singer + ", " + part + ")", book.place(singer, part), STATE);
            }
        }
    }

    private static void onlyTheRangeCounts() {
        // 14 notes of the soprano can be sung, but the row of 8 to 15 is longer than each of theirs.
        ChoirBook book = of("8-15 22-28 30-36");
        book.set(0, 1);
        due("soprano", book.overlap(0, 0), 0);
        due("tenor", book.overlap(0, 2), 6);
        due("bass", book.overlap(0, 3), 8);
        due("parts", book.singer(0, 4), 12);
    }

    // "0 the least overlap (1 to 15; 12); 1 the least strength that covers a part (1 to 50; 5); 2 the pause
    // between solos, in rehearsals (0 to 10; 1); 3 the width of a row (1 to 6; 4)"
    private static void settingIs(int setting, int least, int most, int first) {
        ChoirBook book = new ChoirBook();
        String name = "setting " + setting;
        due(name + " at first", book.setting(setting), first);
        due(name + ", too small", book.set(setting, least - 1), BAD);
        due(name + ", too large", book.set(setting, most + 1), BAD);
        due(name + " still", book.setting(setting), first);
        due(name + ", the least", book.set(setting, least), first);
        due(name + " then", book.setting(setting), least);
        due(name + ", the most", book.set(setting, most), least);
        due(name + " at last", book.setting(setting), most);
        for (int other = 0; other < 4; other++) {
            if (other != setting) {
                due("setting " + other + " stays", book.setting(other), new int[] {12, 5, 1, 4}[other]);
            }
        }
    }

    // ---- PLACING

    private static void placing() {
        noneAtFirst();
        whomAPartFitsIsPlaced();
        whomNoneFitsIsInNone();
        byAsManyNotesAsNeeded();
        fewerThanFour();
        theLeastIsGreatest();
        thenTheGreatestIsLeast();
        thenTheFirstInTheLowerPart();
        theStrongestChoir();
        for (int part = 0; part < 4; part++) {
            theStrongestPart(part);
            theLastGoesElsewhere(part);
        }
        for (int many = 1; many <= 8; many++) {
            whoCanGoElsewhereDoes(many);
        }
    }

    // "Each singer is placed in a part, or in none (none at first)."
    private static void noneAtFirst() {
        ChoirBook book = of("0-40");
        due("part of a new one", book.singer(0, 5), NONE);
        due("placed", book.told(1), 0);
        due("placed by hand", book.place(0, 3), NONE);
        due("in none again", book.place(0, NONE), 3);
        due("part", book.singer(0, 5), NONE);
    }

    // "each singer whom a part fits is placed in one that fits"
    private static void whomAPartFitsIsPlaced() {
        for (int part = 0; part < 4; part++) {
            int lowest = 22 - 6 * part;
            String tests = lowest + "-" + (lowest + 14);
            ChoirBook book = of(tests, tests, tests);
            due("three for part " + part, book.placeAll(), 0);
            partsAre("three for part " + part, book, part, part, part);
        }
        ChoirBook book = of("22-36", "0-40");
        book.place(1, 0);
        due("who can go, goes", book.placeAll(), 0);
        partsAre("who can go, goes", book, 0, 1);
    }

    // "(and others in none)"
    private static void whomNoneFitsIsInNone() {
        ChoirBook book = of("0-40", "22-32", "0-40!", "");
        due("placeAll", book.placeAll(), 0);
        partsAre("11 notes, and none", book, 0, NONE, NONE, NONE);
        book = of("0-40", "0-40");
        book.place(0, 3);
        book.place(1, 2);
        Check.text(book, "0-40!");
        book.test(0);
        book.test(1);
        due("nobody", book.placeAll(), 0);
        partsAre("placed by hand, but fitting no more", book, NONE, NONE);
        due("placed", book.told(1), 0);
    }

    private static void byAsManyNotesAsNeeded() {
        ChoirBook book = of("10-21", "11-21", "4-40");
        due("12 notes of the tenor, 11 notes, and all", book.placeAll(), 0);
        partsAre("12 notes of the tenor, 11 notes, and all", book, 2, NONE, 0);
        book.set(0, 11);
        due("11 are enough", book.placeAll(), 0);
        partsAre("11 are enough", book, 2, 2, 0);
        book.set(0, 15);
        due("15 are needed", book.placeAll(), 0);
        partsAre("15 are needed", book, NONE, NONE, 0);
    }

    private static void fewerThanFour() {
        ChoirBook book = new ChoirBook();
        due("nobody", book.placeAll(), 0);
        int[] all = {5, 5, 5, 5, 5};
        int[][] due = {{0}, {0, 1}, {0, 1, 2}, {0, 1, 2, 3}, {0, 0, 1, 2, 3}};
        for (int singers = 1; singers <= 5; singers++) {
            book = strengths(Arrays.copyOf(all, singers));
            due(singers + " as strong", book.placeAll(), singers < 4 ? 0 : 5);
            partsAre(singers + " as strong", book, due[singers - 1]);
        }
    }

    private static ChoirBook strengths(int... strengths) {
        ChoirBook book = new ChoirBook();
        for (int strength : strengths) {
            Check.join(book, strength, 170, "0-40");
        }
        return book;
    }

    // "the one in which the least strength of the four parts is greatest"
    private static void theLeastIsGreatest() {
        ChoirBook book = strengths(1, 1, 1, 9);
        due("one each", book.placeAll(), 1);
        partsAre("one each", book, 0, 1, 2, 3);
        book = strengths(1, 1, 2, 2, 2);
        due("1 + 1, and three twos", book.placeAll(), 2);
        partsAre("1 + 1, and three twos", book, 0, 0, 1, 2, 3);
        // Only the last two can sing the bass: the stronger one of them must, though then a 1 stands alone.
        book = new ChoirBook();
        Check.join(book, 1, 170, "22-36");
        Check.join(book, 4, 170, "16-30");
        Check.join(book, 4, 170, "10-24");
        Check.join(book, 3, 170, "4-36");
        Check.join(book, 2, 170, "4-36");
        due("3 to the soprano or to the bass", book.placeAll(), 3);
        partsAre("3 to the bass, 2 to the soprano", book, 0, 1, 2, 3, 0);
    }

    // "of several the one in which the greatest strength of the four parts is least"
    private static void thenTheGreatestIsLeast() {
        // The least is 3 at best, also with 2 + 3 in a part; but then 5 is the greatest.
        ChoirBook book = strengths(2, 3, 3, 4, 1, 1);
        due("the least is 3", book.placeAll(), 3);
        partsAre("2 + 1 + 1, 3, 3, 4", book, 0, 1, 2, 3, 0, 0);
        book = new ChoirBook();
        Check.join(book, 2, 170, "22-36");
        Check.join(book, 9, 170, "16-30");
        Check.join(book, 5, 170, "10-24");
        Check.join(book, 5, 170, "4-18");
        Check.join(book, 4, 170, "10-30");
        due("the soprano has 2", book.placeAll(), 2);
        partsAre("4 keeps away from the 9", book, 0, 1, 2, 3, 2);
        String[] only = {"22-36", "16-30", "10-24", "4-18"};
        String[] both = {"16-36", "10-30", "4-24"};
        for (int part = 0; part < 3; part++) {
            book = of(both[part], only[part]);
            due("the least is 0, the greatest 5", book.placeAll(), 0);
            partsAre("the part " + part + " is needed by another", book, part + 1, part);
            book = of(both[part], only[part + 1]);
            due("the least is 0, the greatest 5", book.placeAll(), 0);
            partsAre("the part " + (part + 1) + " is needed by another", book, part, part + 1);
        }
    }

    // "of several the one in which the first singer who is placed differently is in the part with the lower number"
    private static void thenTheFirstInTheLowerPart() {
        ChoirBook book = strengths(3, 3);
        due("two as strong", book.placeAll(), 0);
        partsAre("two as strong", book, 0, 1);
        book = of("10-36", "0-40");
        due("both can sing all that is left", book.placeAll(), 0);
        partsAre("both can sing all that is left", book, 0, 1);
        book = of("16-30", "16-36");
        due("the second one yields to the first", book.placeAll(), 0);
        partsAre("the second one yields to the first", book, 1, 0);
        // A weak one may share the first part with another, as the third is stronger than both.
        book = strengths(1, 1, 9);
        due("1 + 1 and 9", book.placeAll(), 0);
        partsAre("1 + 1 and 9", book, 0, 0, 1);
        book = strengths(9, 1, 1);
        due("9, and 1 + 1", book.placeAll(), 0);
        partsAre("9, and 1 + 1", book, 0, 1, 1);
        // From all of the second one's parts on, the third one can go to each.
        book = strengths(2, 2, 2, 2, 9);
        due("four twos and 9", book.placeAll(), 2);
        partsAre("four twos and 9", book, 0, 0, 1, 2, 3);
    }

    // "The strength of a part is the sum of the strengths of its singers."
    private static void theStrongestChoir() {
        ChoirBook book = new ChoirBook();
        due("the strength of nobody", book.part(3, 1), 0);
        for (int i = 0; i < 10; i++) {
            Check.join(book, 9, 170, "4-18");
        }
        due("ten basses", book.placeAll(), 0);
        due("their strength", book.part(3, 1), 90);
        due("ten are placed", book.told(1), 10);
        due("without one", book.without(9), 0);
        due("remove one", book.remove(0), 9);
        due("the strength then", book.part(3, 1), 81);
    }

    /** Strengths of one part from 63 to 66, and up to 90, beside one of 1 to 9 in the part next to it. */
    private static void theStrongestPart(int part) {
        int lowest = 22 - 6 * part;
        String here = lowest + "-" + (lowest + 14);
        int neighbour = part ^ 1;
        int there = 22 - 6 * neighbour;
        for (int last = 1; last <= 9; last++) {
            ChoirBook book = new ChoirBook();
            for (int i = 0; i < 9; i++) {
                Check.join(book, i < 7 ? 9 : i < 8 ? last : 1 + last % 3, 170, here);
            }
            Check.join(book, last, 170, there + "-" + (there + 14));
            String name = "part " + part + ", last " + last;
            due(name + ": placeAll", book.placeAll(), 0);
            due(name + ": strength", book.part(part, 1), 63 + last + 1 + last % 3);
            due(name + ": its neighbour", book.part(neighbour, 1), last);
            for (int removed = 8; removed >= 7; removed--) {
                book.remove(removed);
                due(name + ": least without " + removed, book.placeAll(), 0);
                due(name + ": singers without " + removed, book.part(part, 0), removed);
                due(name + ": strength without " + removed, book.part(part, 1), removed == 8 ? 63 + last : 63);
            }
        }
    }

    /** Many who can sing one part alone, one for another part, and one who can sing all and is the first one. */
    private static void whoCanGoElsewhereDoes(int many) {
        String[] only = {"22-36", "16-30", "10-24", "4-18"};
        for (int part = 0; part < 4; part++) {
            for (int other = 0; other < 4; other++) {
                ChoirBook book = new ChoirBook();
                Check.join(book, 1, 170, "0-40");
                for (int i = 0; i < many; i++) {
                    Check.join(book, 9, 170, only[part]);
                }
                Check.join(book, 2, 170, only[other]);
                String name = many + " for part " + part + ", one for " + other;
                due(name, book.placeAll(), 0);
                int free = 0;
                while (free == part || free == other) {
                    free++;
                }
                // Only what the strongest part has counts, so 1 may sit with 2 where this is the lower part.
                int with = other != part && other < free ? other : free;
                due(name + ": strength", book.part(part, 1), 9 * many + (other == part ? 2 : 0));
                due(name + ": the first", book.singer(0, 5), with);
                due(name + ": the last", book.singer(many + 1, 5), other);
            }
        }
    }

    /** Eight who can sing one part alone, and behind them one who can sing another part, too. */
    private static void theLastGoesElsewhere(int part) {
        ChoirBook book = new ChoirBook();
        for (int i = 0; i < 8; i++) {
            Check.join(book, 9, 170, (22 - 6 * part) + "-" + (36 - 6 * part));
        }
        int higher = Math.max(0, part - 1);
        Check.join(book, 1, 170, (16 - 6 * higher) + "-" + (36 - 6 * higher));
        due("eight for part " + part, book.placeAll(), 0);
        due("eight for part " + part + ": strength", book.part(part, 1), 72);
        due("eight for part " + part + ": the last one", book.singer(8, 5), part == 0 ? 1 : higher);
    }

    // ---- REHEARSALS

    private static void rehearsals() {
        fortyRehearsals();
        presentAgainBehindEach();
        coveredByAtLeastSoMuch();
        coveredAtTheEndsOfTheSetting();
    }

    // "At most 40 rehearsals are held; the next one has the number 0 at first."
    private static void fortyRehearsals() {
        ChoirBook book = new ChoirBook();
        members(book, 3, 5);
        book.set(2, 0);
        due("none was held", book.told(2), 0);
        due("no rehearsal 0 yet", book.solo(0, 3), BAD);
        for (int number = 0; number < 40; number++) {
            due("hold " + number, book.hold(), 1);
            due("it has the number " + number, book.singer(0, 8), number);
            due("its solo", book.solo(number, 3), 0);
            due("none behind it", book.solo(number + 1, 3), BAD);
        }
        due("a 41st", book.hold(), FULL);
        due("40 were held", book.told(2), 40);
        due("40 solos", book.singer(0, 7), 40);
        due("40 weak ones", book.part(0, 3), 40);
        due("undo the last", book.undo(), 7);
        due("so that one can be held", book.hold(), 1);
        due("but no more", book.hold(), FULL);
    }

    // "Singers are present or absent at the next rehearsal (present at first, and again behind each rehearsal)."
    private static void presentAgainBehindEach() {
        ChoirBook book = new ChoirBook();
        members(book, 0, 5, 5, 5);
        due("present at first", book.singer(2, 6), 1);
        due("nobody is absent", book.told(3), 0);
        due("all are absent", Check.absent(book, "0 1 2"), 3);
        due("no solo", book.hold(), 0);
        due("nobody is absent behind it", book.told(3), 0);
        for (int i = 0; i < 3; i++) {
            due("present again: " + i, book.singer(i, 6), 1);
        }
    }

    // "A part is covered if the strengths of its singers who are present are at least the setting 1."
    private static void coveredByAtLeastSoMuch() {
        ChoirBook book = new ChoirBook();
        members(book, 2, 3, 4);
        book.set(1, 7);
        due("7 by 7", book.told(4), 4);
        book.set(1, 8);
        due("7 by 8", book.told(4), 0);
        book.set(1, 4);
        Check.absent(book, "0");
        due("4 by 4", book.told(4), 4);
        book.set(1, 5);
        due("4 by 5", book.told(4), 0);
        Check.absent(book, "1");
        due("3 by 5", book.told(4), 0);
        book.set(1, 3);
        due("3 by 3", book.told(4), 4);
        book.hold();
        weakAre("3 by 3", book, 1, 1, 0, 1);
        Check.absent(book, "0 1");
        book.set(1, 1);
        due("nothing by 1", book.told(4), 0);
        book.hold();
        weakAre("nothing by 1", book, 2, 2, 1, 2);
    }

    private static void coveredAtTheEndsOfTheSetting() {
        ChoirBook book = new ChoirBook();
        members(book, 1, 9, 9, 9, 9, 9, 5);
        book.set(1, 50);
        due("50 by 50", book.told(4), 2);
        Check.absent(book, "5");
        due("45 by 50", book.told(4), 0);
        book = new ChoirBook();
        members(book, 1, 1);
        book.set(1, 1);
        due("1 by 1", book.told(4), 2);
        book.set(1, 2);
        due("1 by 2", book.told(4), 0);
    }

    private static void standIns() {
        partsInAscendingOrder();
        singersInAscendingOrder();
        onlyWhoArePresent();
        onlyWhomItFits();
        onlyWhoArePlacedInAnotherPart();
        aPartMustStayCovered();
        aPartThatIsNotCoveredGivesNobody();
        whoGaveAndGotCounts();
        aPartThatGotStandInsGives();
        nobodyStandsInTwice();
        noMoreThanAreNeeded();
        whoStandsInDoesSoEvenInVain();
        standInsStayPlaced();
    }

    // "the parts are gone through in ascending order"
    private static void partsInAscendingOrder() {
        ChoirBook book = new ChoirBook();
        members(book, 1, 5, 5);
        standInsAre("one for three parts", book, 0, NONE);
        members(book, 0, 5);
        standInsAre("one for two parts", book, 2, NONE, NONE);
        members(book, 2, 5);
        standInsAre("one for the last part", book, 3, NONE, NONE, NONE);
        members(book, 3, 5);
        standInsAre("all are covered", book, NONE, NONE, NONE, NONE, NONE);
    }

    // "singers are asked in ascending order"
    private static void singersInAscendingOrder() {
        ChoirBook book = new ChoirBook();
        members(book, 3, 5);
        members(book, 2, 5, 5);
        members(book, 3, 5);
        // The part 3 gives 0 first, the part 2 gives 1, and what is left covers only these.
        standInsAre("the lowest number first", book, 0, 1, NONE, NONE);
    }

    // "who are present"
    private static void onlyWhoArePresent() {
        ChoirBook book = new ChoirBook();
        members(book, 3, 5, 5, 5);
        standInsAre("all are present", book, 0, 1, NONE);
        Check.absent(book, "0");
        standInsAre("0 is absent", book, NONE, 0, NONE);
        Check.absent(book, "0 1");
        standInsAre("0 and 1 are absent", book, NONE, NONE, NONE);
    }

    // "whom it fits"
    private static void onlyWhomItFits() {
        ChoirBook book = new ChoirBook();
        Check.join(book, 5, 170, "4-32");
        Check.join(book, 5, 170, "4-33");
        members(book, 3, 5);
        book.place(0, 3);
        book.place(1, 3);
        standInsAre("11 notes of the soprano, and 12", book, 1, 0, NONE);
        book.set(0, 13);
        standInsAre("13 are needed", book, 1, NONE, 0);
        book.set(0, 11);
        standInsAre("11 are needed", book, 0, 1, NONE);
    }

    // "who are placed in another part"
    private static void onlyWhoArePlacedInAnotherPart() {
        ChoirBook book = new ChoirBook();
        Check.join(book, 9, 170, "0-40");
        members(book, 0, 2, 2);
        standInsAre("one in none, and two of the part", book, NONE, NONE, NONE);
        book.place(0, 1);
        standInsAre("needed in the alto", book, NONE, NONE, NONE);
        members(book, 1, 5);
        standInsAre("another one is in the alto", book, 0, 2, 2, NONE);
    }

    // "who are placed in another part that would still be covered without them"
    private static void aPartMustStayCovered() {
        ChoirBook book = new ChoirBook();
        members(book, 3, 3, 5);
        standInsAre("5 of 8 are left", book, 0, NONE);
        book.set(1, 6);
        standInsAre("5 of 8 are too few for 6", book, NONE, NONE);
        book.set(1, 3);
        // Without 0 there are 5, without 1 there would be 0 left.
        standInsAre("5 of 8 are more than 3", book, 0, NONE);
        Check.absent(book, "0");
        standInsAre("the other one is absent", book, NONE, NONE);
    }

    private static void aPartThatIsNotCoveredGivesNobody() {
        ChoirBook book = new ChoirBook();
        members(book, 2, 1, 1, 1, 1);
        standInsAre("4 do not cover", book, NONE, NONE, NONE, NONE);
        book.set(1, 4);
        standInsAre("4 cover, but 3 would not", book, NONE, NONE, NONE, NONE);
        book.set(1, 3);
        standInsAre("3 would", book, 0, NONE, NONE, NONE);
    }

    // "(with those who have come or gone already in this rehearsal)"
    private static void whoGaveAndGotCounts() {
        ChoirBook book = new ChoirBook();
        members(book, 1, 4, 2, 4);
        // 4 goes, and 6 are left; then 2 more are too many.
        standInsAre("who is gone counts no more", book, 0, NONE, NONE);
        members(book, 0, 1);
        // 4 and 1 cover the soprano; the alto keeps 6.
        standInsAre("who has come counts", book, 0, NONE, NONE, NONE);
        book.hold();
        weakAre("who has come counts", book, 0, 0, 1, 1);
    }

    // "(a part that got stand-ins can give its own singers in this way, too)"
    private static void aPartThatGotStandInsGives() {
        ChoirBook book = new ChoirBook();
        members(book, 0, 4);
        members(book, 1, 5, 5);
        standInsAre("the soprano got 5 and gives 4", book, 2, 0, NONE);
        book.hold();
        weakAre("the tenor has 4", book, 0, 0, 1, 1);
        book.set(1, 4);
        standInsAre("4 cover: the soprano needs nobody", book, NONE, 2, NONE);
    }

    // "and who do not stand in yet"
    private static void nobodyStandsInTwice() {
        ChoirBook book = new ChoirBook();
        members(book, 1, 1, 9);
        book.set(1, 1);
        // 0 covers the soprano; the alto cannot spare 1, and 0 is not asked again for the tenor.
        standInsAre("one who can, and stands in already", book, 0, NONE);
        book.hold();
        due("stood in once", book.singer(0, 9), 1);
        weakAre("once", book, 0, 0, 1, 1);
        // The part they stand in would still be covered without them, and so would their own.
        book = new ChoirBook();
        members(book, 1, 2, 9, 9);
        members(book, 0, 4);
        standInsAre("not again, though they could", book, 0, 2, NONE, NONE);
    }

    // "each of them stands in, until the part is covered"
    private static void noMoreThanAreNeeded() {
        ChoirBook book = new ChoirBook();
        members(book, 3, 2, 3, 1, 9);
        members(book, 1, 5);
        members(book, 2, 5);
        standInsAre("2 and 3 are 5", book, 0, 0, NONE, NONE, NONE, NONE);
        book.set(1, 4);
        standInsAre("2 and 3 are more than 4", book, 0, 0, NONE, NONE, NONE, NONE);
        book = new ChoirBook();
        members(book, 3, 2, 2, 1, 9);
        members(book, 1, 5);
        members(book, 2, 5);
        standInsAre("2, 2 and 1 are 5", book, 0, 0, 0, NONE, NONE, NONE);
    }

    // "or nobody is left. Where a part is not covered even so, the rehearsal is counted as weak for it."
    private static void whoStandsInDoesSoEvenInVain() {
        ChoirBook book = new ChoirBook();
        members(book, 2, 2, 2, 5);
        members(book, 1, 5);
        members(book, 3, 5);
        standInsAre("4 for the soprano", book, 0, 0, NONE, NONE, NONE);
        due("two have a solo no more", book.hold(), 3);
        weakAre("4 are not enough", book, 1, 0, 0, 0);
        due("but they stood in", book.told(6), 2);
        book.set(1, 4);
        book.hold();
        weakAre("4 are enough for 4", book, 1, 0, 0, 0);
        due("stand-ins", book.told(6), 4);
    }

    private static void standInsStayPlaced() {
        ChoirBook book = new ChoirBook();
        members(book, 0, 5, 5);
        book.hold();
        due("part of who stood in", book.singer(0, 5), 0);
        due("strength of the soprano", book.part(0, 1), 10);
        due("strength of the alto", book.part(1, 1), 0);
        due("covered without stand-ins", book.told(4), 1);
    }

    // ---- SOLOS

    private static void solos() {
        noSoloInAnEmptyPart();
        noSoloForWhoIsAbsent();
        noSoloForWhoStandsIn();
        thePauseAtItsEdge();
        theFirstSoloNeedsNoPause();
        theFewestFirst();
        ofAsManyTheLongestAgo();
        ofAsLongTheLowestNumber();
        aPauseThatIsSetLaterCounts();
    }

    // "one solo is given in each part that has a singer placed in it"
    private static void noSoloInAnEmptyPart() {
        ChoirBook book = new ChoirBook();
        Check.join(book, 5, 170, "0-40");
        due("one in none", book.hold(), 0);
        for (int part = 0; part < 4; part++) {
            due("solo of part " + part, book.solo(0, part), NONE);
        }
        book.set(1, 50);
        for (int part = 0; part < 4; part++) {
            members(book, part, 1);
        }
        due("one in each", book.hold(), 4);
        for (int part = 0; part < 4; part++) {
            due("solo of part " + part, book.solo(1, part), part + 1);
        }
    }

    // "who is present"
    private static void noSoloForWhoIsAbsent() {
        ChoirBook book = new ChoirBook();
        members(book, 0, 5);
        Check.absent(book, "0");
        due("who would", book.part(0, 5), NONE);
        due("hold", book.hold(), 0);
        due("no solo", book.solo(0, 0), NONE);
        due("present again", book.part(0, 5), 0);
    }

    // "and does not stand in elsewhere"
    private static void noSoloForWhoStandsIn() {
        ChoirBook book = new ChoirBook();
        members(book, 1, 5, 5);
        due("who would in the alto", book.part(1, 5), 1);
        due("nobody in the soprano, though 0 sings there", book.part(0, 5), NONE);
        due("hold", book.hold(), 1);
        due("the alto", book.solo(0, 1), 1);
        due("the soprano", book.solo(0, 0), NONE);
    }

    // "(the difference of the numbers is greater than the setting)"
    private static void thePauseAtItsEdge() {
        for (int pause = 0; pause <= 10; pause++) {
            ChoirBook book = new ChoirBook();
            members(book, 0, 5);
            book.set(2, pause);
            due("pause " + pause + ": the first", book.hold(), 1);
            for (int later = 1; later <= pause; later++) {
                due("pause " + pause + ": why not, " + later + " later", book.passedOver(0), 4);
                due("pause " + pause + ": " + later + " later", book.hold(), 0);
            }
            due("pause " + pause + ": why not", book.passedOver(0), 0);
            due("pause " + pause + ": the next", book.hold(), 1);
            due("pause " + pause + ": its number", book.singer(0, 8), pause + 1);
        }
    }

    // "or who had none"
    private static void theFirstSoloNeedsNoPause() {
        ChoirBook book = new ChoirBook();
        members(book, 0, 5);
        book.set(1, 50);
        book.set(2, 10);
        due("the first rehearsal", book.hold(), 1);
        due("the pause", book.part(0, 5), NONE);
        members(book, 0, 5);
        due("who had none", book.part(0, 5), 1);
        due("the second rehearsal", book.hold(), 1);
        due("its solo", book.solo(1, 0), 1);
        due("all had one", book.hold(), 0);
    }

    // "to that one of these with the fewest solos"
    private static void theFewestFirst() {
        ChoirBook book = new ChoirBook();
        members(book, 3, 5);
        book.set(1, 50);
        book.set(2, 0);
        book.hold();
        book.hold();
        members(book, 3, 5);
        int[] due = {1, 1, 0, 1, 0};
        for (int i = 0; i < due.length; i++) {
            book.hold();
            due("solo " + i, book.solo(2 + i, 3), due[i]);
        }
    }

    // "of several the one whose latest solo is longest ago (those without one first)"
    private static void ofAsManyTheLongestAgo() {
        ChoirBook book = new ChoirBook();
        members(book, 2, 5, 5);
        book.set(1, 50);
        book.set(2, 0);
        Check.absent(book, "0");
        book.hold();
        due("1 was first", book.solo(0, 2), 1);
        due("0 had none", book.part(2, 5), 0);
        book.hold();
        due("each had one, 1 longer ago", book.part(2, 5), 1);
        due("0 is passed over", book.passedOver(0), 5);
        book.hold();
        due("0 had fewer", book.part(2, 5), 0);
    }

    // "of several the one with the lowest number"
    private static void ofAsLongTheLowestNumber() {
        ChoirBook book = new ChoirBook();
        book.set(1, 50);
        for (int i = 0; i < 10; i++) {
            members(book, 1, 1 + i % 9);
        }
        for (int i = 0; i < 10; i++) {
            due("ahead of " + i, book.part(1, 5), i);
            book.hold();
            due("solo " + i, book.solo(i, 1), i);
        }
        due("from the beginning", book.part(1, 5), 0);
        // Two had their latest solo in the same rehearsal, in different parts.
        book = new ChoirBook();
        book.set(1, 50);
        book.set(2, 0);
        members(book, 0, 5);
        members(book, 1, 5);
        book.hold();
        book.place(0, 1);
        due("as many, in the same rehearsal", book.part(1, 5), 0);
        due("the other one is passed over", book.passedOver(1), 5);
    }

    private static void aPauseThatIsSetLaterCounts() {
        ChoirBook book = new ChoirBook();
        members(book, 0, 5);
        book.hold();
        due("1 is not greater than 1", book.part(0, 5), NONE);
        book.set(2, 0);
        due("1 is greater than 0", book.part(0, 5), 0);
        book.set(2, 10);
        due("1 is not greater than 10", book.part(0, 5), NONE);
    }

    // ---- SEATS

    private static void seats() {
        seatsFromTheMiddle();
        aRowThatIsJustFull();
        eachPartBeginsARow();
        anEmptyPartHasNoRow();
        theSmallestFirst();
        ofEqualOnesTheLowestNumber();
        onlyWhoArePlacedSit();
        theMostRows();
    }

    // "the first one of a row sits at the seat 0, the next one at 1, then -1, 2, -2 and so on"
    private static void seatsFromTheMiddle() {
        ChoirBook book = new ChoirBook();
        members(book, 0, 1, 1, 1, 1, 1, 1);
        book.set(3, 6);
        int[] seats = {0, 1, -1, 2, -2, 3};
        for (int i = 0; i < 6; i++) {
            due("seat of " + i, book.seat(i, 1), seats[i]);
            due("row of " + i, book.seat(i, 0), 0);
        }
        book.set(3, 1);
        for (int i = 0; i < 6; i++) {
            due("width 1: seat of " + i, book.seat(i, 1), 0);
            due("width 1: row of " + i, book.seat(i, 0), i);
        }
    }

    // "they fill rows of the width, the first row at the front"
    private static void aRowThatIsJustFull() {
        for (int width = 1; width <= 6; width++) {
            ChoirBook book = new ChoirBook();
            book.set(3, width);
            for (int i = 0; i < width; i++) {
                members(book, 2, 1);
            }
            due("width " + width + ", just full: rows", book.part(2, 4), 1);
            due("width " + width + ", just full: the last one's row", book.seat(width - 1, 0), 0);
            members(book, 2, 1);
            due("width " + width + ", one more: rows", book.part(2, 4), 2);
            due("width " + width + ", one more: row", book.seat(width, 0), 1);
            due("width " + width + ", one more: seat", book.seat(width, 1), 0);
            members(book, 3, 1);
            due("width " + width + ", the bass behind it", book.seat(width + 1, 0), 2);
        }
    }

    // "each part begins with a new row of its own block"
    private static void eachPartBeginsARow() {
        ChoirBook book = new ChoirBook();
        members(book, 3, 1);
        members(book, 2, 1);
        members(book, 1, 1);
        members(book, 0, 1);
        for (int i = 0; i < 4; i++) {
            due("row of " + i, book.seat(i, 0), 3 - i);
            due("seat of " + i, book.seat(i, 1), 0);
        }
    }

    private static void anEmptyPartHasNoRow() {
        ChoirBook book = new ChoirBook();
        members(book, 3, 1);
        due("the bass alone", book.seat(0, 0), 0);
        members(book, 1, 1);
        due("behind the alto", book.seat(0, 0), 1);
        due("the alto", book.seat(1, 0), 0);
        int[] rows = {0, 1, 0, 1};
        for (int part = 0; part < 4; part++) {
            due("rows of " + part, book.part(part, 4), rows[part]);
        }
    }

    // "Within a part they are ordered by height, the smallest first"
    private static void theSmallestFirst() {
        ChoirBook book = new ChoirBook();
        int[] heights = {220, 101, 100, 219};
        for (int height : heights) {
            Check.joinPart(book, 5, height, 0);
        }
        int[] seats = {2, 1, 0, -1};
        for (int i = 0; i < 4; i++) {
            due("seat of " + heights[i], book.seat(i, 1), seats[i]);
        }
    }

    // "of equal ones the lowest number first"
    private static void ofEqualOnesTheLowestNumber() {
        ChoirBook book = new ChoirBook();
        for (int i = 0; i < 10; i++) {
            Check.joinPart(book, 5, 150, 1);
        }
        int[] seats = {0, 1, -1, 2};
        for (int i = 0; i < 10; i++) {
            due("row of " + i, book.seat(i, 0), i / 4);
            due("seat of " + i, book.seat(i, 1), seats[i % 4]);
        }
        book.remove(0);
        due("who moved up", book.seat(0, 1), 0);
        due("and the last one", book.seat(8, 0), 2);
    }

    // "Singers who are placed sit in rows"
    private static void onlyWhoArePlacedSit() {
        ChoirBook book = new ChoirBook();
        Check.join(book, 5, 100, "0-40");
        Check.joinPart(book, 5, 101, 0);
        due("who is in none has no row", book.seat(0, 0), NONE);
        due("and no seat", book.seat(0, 1), NONE);
        due("who is placed has the first", book.seat(1, 1), 0);
        book.place(0, 0);
        due("then the smaller one has it", book.seat(0, 1), 0);
        due("and the other the next", book.seat(1, 1), 1);
    }

    private static void theMostRows() {
        ChoirBook book = new ChoirBook();
        book.set(3, 1);
        for (int i = 0; i < 10; i++) {
            members(book, i < 9 ? 0 : 3, 1);
        }
        due("nine rows of one", book.part(0, 4), 9);
        due("the last row", book.seat(9, 0), 9);
        book.set(3, 6);
        due("two rows of up to six", book.part(0, 4), 2);
        due("the last row then", book.seat(9, 0), 2);
    }
}
