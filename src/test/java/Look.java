import java.util.function.Supplier;
import java.util.function.ToIntFunction;

/** All that can be seen of an object, so that two can be compared; a whole look takes some 300 calls. */
final class Look {
    private final DonkeyVerdicts x;
    private final StringBuilder seen = new StringBuilder();

    private Look(DonkeyVerdicts x) {
        this.x = x;
    }

    /** The court and the beasts as they stand; changes nothing. */
    static String now(DonkeyVerdicts x) {
        Look look = new Look(x);
        look.counts(0, 12);
        look.places();
        look.beasts();
        return look.seen.toString();
    }

    /** Also what can be undone, what is kept and what the text lays; the object is used up then. */
    static String whole(DonkeyVerdicts x) {
        Look look = new Look(x);
        look.seen.append(now(x));
        look.unwound("undo", DonkeyVerdicts::undo);
        look.unwound("back", DonkeyVerdicts::back);
        look.say("fault", x.fault());
        look.say("lay", x.lay());
        look.counts(0, 12);
        look.places();
        return look.seen.toString();
    }

    /** A call that is refused: its answer, and that it leaves all as it was. */
    static void refused(String call, int want, Supplier<DonkeyVerdicts> made, ToIntFunction<DonkeyVerdicts> asked) {
        DonkeyVerdicts x = made.get();
        Check.due(call, asked.applyAsInt(x), want);
        Check.same("behind " + call, whole(x), whole(made.get()));
    }

    /** A call that only asks leaves all as it was. */
    static void unchanged(String call, Supplier<DonkeyVerdicts> made, ToIntFunction<DonkeyVerdicts> asked) {
        DonkeyVerdicts x = made.get();
        asked.applyAsInt(x);
        Check.same("behind " + call, whole(x), whole(made.get()));
    }

    private void say(String what, int answer) {
        seen.append(what).append(' ').append(answer).append("; ");
    }

    private void counts(int from, int to) {
        for (int what = from; what <= to; what++) {
            say("count " + what, x.count(what));
        }
    }

    private void places() {
        int amount = x.count(0);
        for (int p = 0; p < amount; p++) {
            for (int what = 0; what < 3; what++) {
                say("place " + p + " " + what, x.place(p, what));
            }
        }
    }

    private void beasts() {
        int amount = x.count(2);
        for (int b = 0; b < amount; b++) {
            for (int what = 2; what < 8; what++) {
                say("beast " + b + " " + what, x.beast(b, what));
            }
            for (int what = 0; what < 3; what++) {
                say("sign " + b + " " + what, x.sign(b, what));
            }
        }
    }

    private void unwound(String name, ToIntFunction<DonkeyVerdicts> call) {
        int amount = x.count(2);
        int answer = call.applyAsInt(x);
        say(name, answer);
        for (int i = 0; i < 9 && answer >= 0; i++) {
            counts(4, 9);
            for (int b = 0; b < amount; b++) {
                say("beast " + b + " 3", x.beast(b, 3));
                say("beast " + b + " 4", x.beast(b, 4));
            }
            answer = call.applyAsInt(x);
            say(name, answer);
        }
    }
}
