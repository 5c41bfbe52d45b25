/** Counts the calls whose answer is not the one that is due, and makes the books that the tests begin with. */
final class Check {
    private final String name;
    private int wrong = 0;

    Check(String name) {
        this.name = name;
    }

    void due(String call, long got, long want) {
        if (got != want) {
            wrong++;
            System.out.println(name + ": " + call + " answered " + got + ", due is " + want);
        }
    }

    void dueFloat(String call, float got, float want) {
        if (Float.floatToIntBits(got) != Float.floatToIntBits(want)) {
            wrong++;
            System.out.println(name + ": " + call + " answered " + got + ", due is " + want);
        }
    }

    void dueTrue(String what, boolean holds) {
        due(what, holds ? 1 : 0, 1);
    }

    void end() {
        System.out.println(name + ": " + (wrong == 0 ? "all answers are as due" : wrong + " answers are not as due"));
        if (wrong != 0) {
            System.exit(1);
        }
    }

    /** Replaces the text. */
    static void text(ChoirBook book, String text) {
        book.wipe();
        for (char c : text.toCharArray()) {
            book.write(c);
        }
    }

    /** Adds a singer with the tests of a text, and returns their number; the text is empty then. */
    static int join(ChoirBook book, int strength, int height, String tests) {
        int number = book.add(strength, height);
        text(book, tests);
        book.test(number);
        book.wipe();
        return number;
    }

    /** Adds a singer whom every part fits, placed in a part. */
    static int joinPart(ChoirBook book, int strength, int part) {
        return joinPart(book, strength, 170, part);
    }

    static int joinPart(ChoirBook book, int strength, int height, int part) {
        int number = join(book, strength, height, "0-40");
        book.place(number, part);
        return number;
    }

    /** Makes the singers of a text absent; the text is empty then. */
    static int absent(ChoirBook book, String singers) {
        text(book, singers);
        int answer = book.attendance();
        book.wipe();
        return answer;
    }
}
