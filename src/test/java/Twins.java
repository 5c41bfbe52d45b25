import java.util.function.Consumer;
import java.util.function.Supplier;
import java.util.function.ToIntFunction;

/**
 * Two books made by the same calls. One of them is given a call more, that must change nothing: then
 * both are asked everything, and taken back as far as they can be.
 */
final class Twins {
    private final Check check;
    private final String call;
    private final ChoirBook called;
    private final ChoirBook spared;

    private Twins(Check check, String call, Supplier<ChoirBook> made) {
        this.check = check;
        this.call = call;
        called = made.get();
        spared = made.get();
    }

    /** A call that answers with an error code and changes nothing. */
    static void refuse(Check check, String call, Supplier<ChoirBook> made, ToIntFunction<ChoirBook> refused, int error) {
        Twins twins = new Twins(check, call, made);
        check.due(call, refused.applyAsInt(twins.called), error);
        twins.haveTheSameFault();
        twins.areTheSame();
    }

    /** The same, but the call reads the text and finds a fault there. */
    static void refuseText(Check check, String call, Supplier<ChoirBook> made, ToIntFunction<ChoirBook> refused, int kind, int place) {
        Twins twins = new Twins(check, call, made);
        check.due(call, refused.applyAsInt(twins.called), ChoirBook.STATE);
        check.due(call + ": kind", twins.called.fault(0), kind);
        check.due(call + ": place", twins.called.fault(1), place);
        twins.areTheSame();
    }

    /** Calls that only ask. */
    static void ask(Check check, String call, Supplier<ChoirBook> made, Consumer<ChoirBook> asks) {
        Twins twins = new Twins(check, call, made);
        asks.accept(twins.called);
        twins.haveTheSameFault();
        twins.areTheSame();
    }

    private void same(String question, ToIntFunction<ChoirBook> asked) {
        check.due(question + ", behind " + call, asked.applyAsInt(called), asked.applyAsInt(spared));
    }

    private void haveTheSameFault() {
        same("fault(0)", b -> b.fault(0));
        same("fault(1)", b -> b.fault(1));
    }

    private void areTheSame() {
        for (int what = 0; what <= 8; what++) {
            int asked = what;
            same("told(" + what + ")", b -> b.told(asked));
        }
        haveTheSameChoir();
        for (int rehearsal = 0; rehearsal < spared.told(2); rehearsal += 13) {
            int asked = rehearsal;
            same("solo(" + rehearsal + ", 0)", b -> b.solo(asked, 0));
            same("solo(" + rehearsal + ", 3)", b -> b.solo(asked, 3));
        }
        readTheSame();
        goBackTheSame();
    }

    private void haveTheSameChoir() {
        for (int i = 0; i < 4; i++) {
            int asked = i;
            same("setting(" + i + ")", b -> b.setting(asked));
            for (int what = 0; what <= 5; what++) {
                int number = what;
                same("part(" + i + ", " + what + ")", b -> b.part(asked, number));
            }
        }
        for (int i = 0; i < spared.told(0); i++) {
            int asked = i;
            for (int what = 0; what <= 9; what++) {
                int number = what;
                same("singer(" + i + ", " + what + ")", b -> b.singer(asked, number));
            }
            same("note(" + i + ", 20)", b -> b.note(asked, 20));
            same("seat(" + i + ", 0)", b -> b.seat(asked, 0));
            same("standIn(" + i + ")", b -> b.standIn(asked));
        }
    }

    /** The bytes of the text are seen by what an attendance finds in it; it is undone then. */
    private void readTheSame() {
        same("attendance()", ChoirBook::attendance);
        same("fault(0) of the attendance", b -> b.fault(0));
        same("fault(1) of the attendance", b -> b.fault(1));
        same("write(32)", b -> b.write(32));
        same("wipe()", ChoirBook::wipe);
    }

    private void goBackTheSame() {
        for (int i = 0; i < 2; i++) {
            int image = i;
            same("back(" + i + ")", b -> b.back(image));
            same("told(2) of image " + i, b -> b.told(2));
            same("part(0, 1) of image " + i, b -> b.part(0, 1));
        }
        for (int step = 0; step < 9; step++) {
            same("undo()", ChoirBook::undo);
            same("told(0) undone", b -> b.told(0));
            same("told(1) undone", b -> b.told(1));
            same("told(2) undone", b -> b.told(2));
            same("told(3) undone", b -> b.told(3));
            same("setting(1) undone", b -> b.setting(1));
        }
    }
}
