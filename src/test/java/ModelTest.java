import java.util.Random;

/** Holds the class against the slow model, by runs of calls that are drawn from fixed seeds. */
public final class ModelTest {
    private static final int RUNS = 1500;
    private static final int CALLS = 512;
    private static final String SIGNS = "0123456789 -!+a";

    private final Check check;
    private final Random random;
    private final int run;
    private final ChoirBook book = new ChoirBook();
    private final Model model = new Model();
    private final int mostSingers;
    private final boolean loose;
    private final boolean manyHolds;
    private int calls = 0;

    private ModelTest(Check check, int run) {
        this.check = check;
        this.run = run;
        random = new Random(run);
        // Few singers in most runs: the model looks at 4^singers placings.
        mostSingers = run % 40 == 0 ? 10 : 1 + random.nextInt(7);
        loose = random.nextBoolean();
        manyHolds = random.nextInt(3) == 0;
    }

    public static void main(String[] args) {
        Check check = new Check("ModelTest");
        for (int run = 0; run < RUNS; run++) {
            new ModelTest(check, run).play();
        }
        check.end();
    }

    private void play() {
        if (loose) {
            set(0, 1 + random.nextInt(8));
        }
        while (calls < CALLS) {
            step();
        }
    }

    private void due(String call, long got, long want) {
        calls++;
        check.due("run " + run + ", call " + calls + ": " + call, got, want);
    }

    /** Mostly a number in its range, now and then one at or beyond its edges. */
    private int number(int least, int most) {
        switch (random.nextInt(30)) {
            case 0: return least - 1;
            case 1: return most + 1;
            case 2: return least;
            case 3: return most;
            case 4: return random.nextInt(8) == 0 ? random.nextInt() : -9;
            default: return least + random.nextInt(Math.max(1, most - least + 1));
        }
    }

    private int singer() {
        return number(0, Math.max(0, model.told(0) - 1));
    }

    private int part() {
        return number(0, 3);
    }

    private void step() {
        int kind = random.nextInt(100);
        if (kind < 45) {
            change(kind);
        } else if (kind < 55) {
            text();
        } else {
            ask(kind);
        }
    }

    private void change(int kind) {
        if (model.told(0) < mostSingers && random.nextInt(3) == 0) {
            join();
        } else if (kind < 8 || manyHolds && kind < 16) {
            due("hold()", book.hold(), model.hold());
        } else if (kind < 20) {
            int s = singer();
            int p = random.nextInt(8) == 0 ? -9 : part();
            due("place(" + s + ", " + p + ")", book.place(s, p), model.place(s, p));
        } else if (kind < 24) {
            if (mostSingers < 9 || random.nextInt(6) == 0) {
                due("placeAll()", book.placeAll(), model.placeAll());
            }
        } else if (kind < 28) {
            set();
        } else if (kind < 34) {
            write(absentees());
            due("attendance()", book.attendance(), model.attendance());
        } else if (kind < 37) {
            due("undo()", book.undo(), model.undo());
        } else if (kind < 39) {
            keepOrBack();
        } else if (kind < 42) {
            int s = singer();
            write(tests());
            due("test(" + s + ")", book.test(s), model.test(s));
        } else {
            int s = random.nextBoolean() ? singer() : -1;
            due("remove(" + s + ")", book.remove(s), model.remove(s));
        }
    }

    private void set() {
        int setting = number(0, 3);
        int value = setting == 0 ? number(1, 15) : setting == 1 ? (random.nextInt(4) == 0 ? number(1, 50) : number(1, 12))
                : setting == 2 ? (random.nextInt(3) == 0 ? number(0, 10) : number(0, 3)) : number(1, 6);
        set(setting, value);
    }

    private void set(int setting, int value) {
        due("set(" + setting + ", " + value + ")", book.set(setting, value), model.set(setting, value));
    }

    private void keepOrBack() {
        int i = number(0, 1);
        if (random.nextBoolean()) {
            due("keep(" + i + ")", book.keep(i), model.keep(i));
        } else {
            due("back(" + i + ")", book.back(i), model.back(i));
        }
    }

    private void join() {
        int strength = number(1, 9);
        int height = random.nextBoolean() ? number(100, 220) : number(165, 168);
        due("add(" + strength + ", " + height + ")", book.add(strength, height), model.add(strength, height));
        int low = random.nextInt(30);
        int high = Math.min(40, low + 8 + random.nextInt(33));
        write(random.nextInt(3) == 0 ? "4-36" : low + "-" + high);
        int s = model.told(0) - 1;
        due("test(" + s + ")", book.test(s), model.test(s));
    }

    private String absentees() {
        StringBuilder text = new StringBuilder();
        for (int i = 0; i < model.told(0); i++) {
            if (random.nextInt(3) == 0) {
                text.append(random.nextInt(9) == 0 ? "0" : "").append(i).append(random.nextInt(9) == 0 ? "   " : " ");
            }
        }
        return spoiled(text);
    }

    private String tests() {
        StringBuilder text = new StringBuilder();
        for (int words = random.nextInt(6); words > 0; words--) {
            int from = random.nextInt(41);
            text.append(from);
            if (random.nextBoolean()) {
                text.append('-').append(from + random.nextInt(41 - from));
            }
            text.append(random.nextInt(3) == 0 ? "!" : "").append(random.nextInt(9) == 0 ? "  " : " ");
        }
        return spoiled(text);
    }

    private String spoiled(StringBuilder text) {
        if (random.nextBoolean() && text.length() > 0) {
            text.setLength(text.length() - 1);
        }
        if (random.nextInt(3) == 0) {
            for (int signs = 1 + random.nextInt(2); signs > 0; signs--) {
                int at = random.nextInt(text.length() + 1);
                char sign = SIGNS.charAt(random.nextInt(SIGNS.length()));
                if (at < text.length() && random.nextBoolean()) {
                    text.setCharAt(at, sign);
                } else {
                    text.insert(at, sign);
                }
            }
        }
        return text.toString();
    }

    private void text() {
        switch (random.nextInt(6)) {
            case 0:
                int code = number(32, 126);
                due("write(" + code + ")", book.write(code), model.write(code));
                break;
            case 1:
                due("wipe()", book.wipe(), model.wipe());
                break;
            default:
                int what = number(0, 1);
                due("fault(" + what + ")", book.fault(what), model.fault(what));
        }
    }

    private void write(String text) {
        due("wipe()", book.wipe(), model.wipe());
        for (char c : text.toCharArray()) {
            due("write(" + (int) c + ")", book.write(c), model.write(c));
        }
    }

    private void ask(int kind) {
        int s = singer();
        int p = part();
        switch (kind % 14) {
            case 0: case 1:
                int told = number(0, 8);
                due("told(" + told + ")", book.told(told), model.told(told));
                break;
            case 2:
                int setting = number(0, 3);
                due("setting(" + setting + ")", book.setting(setting), model.setting(setting));
                break;
            case 3: case 4:
                int what = number(0, 9);
                due("singer(" + s + ", " + what + ")", book.singer(s, what), model.singer(s, what));
                break;
            case 5:
                int note = number(0, 40);
                due("note(" + s + ", " + note + ")", book.note(s, note), model.note(s, note));
                break;
            case 6:
                due("overlap(" + s + ", " + p + ")", book.overlap(s, p), model.overlap(s, p));
                break;
            case 7: case 8:
                int number = number(0, 5);
                due("part(" + p + ", " + number + ")", book.part(p, number), model.part(p, number));
                break;
            case 9:
                int axis = number(0, 1);
                due("seat(" + s + ", " + axis + ")", book.seat(s, axis), model.seat(s, axis));
                break;
            case 10:
                int rehearsal = number(0, Math.max(0, model.told(2) - 1));
                due("solo(" + rehearsal + ", " + p + ")", book.solo(rehearsal, p), model.solo(rehearsal, p));
                break;
            case 11:
                due("mean() in quarters", Math.round(4 * book.mean()), Math.round(4 * model.mean()));
                check.dueFloat("run " + run + ": mean()", book.mean(), model.mean());
                break;
            case 12:
                due("standIn(" + s + ")", book.standIn(s), model.standIn(s));
                break;
            default:
                due("passedOver(" + s + ")", book.passedOver(s), model.passedOver(s));
                if (mostSingers < 9 || random.nextInt(6) == 0) {
                    due("without(" + s + ")", book.without(s), model.without(s));
                }
        }
    }
}
