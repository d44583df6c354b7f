import java.util.function.BiConsumer;
import java.util.function.Consumer;
import java.util.function.IntFunction;
import java.util.function.Supplier;

/** What the tests share: answers compared with those that are due, and calls that must be refused. */
final class Due {
    /** A call with one number left open. */
    interface NumberedCall {
        int answer(Ferrytax x, int number);
    }

    private int wrong = 0;

    void is(String what, long got, long want) {
        if (got != want) {
            report(what + " answered " + got + ", due is " + want);
        }
    }

    void code(Ferrytax x, int receipt, String want) {
        for (int place = 0; place < want.length(); place++) {
            is("code(" + receipt + ", " + place + ")", x.code(receipt, place), want.charAt(place));
        }
        for (int behind = 0; behind < 3; behind++) {
            is("code behind " + want, x.code(receipt, want.length() + behind), 0);
        }
        is("code far behind " + want, x.code(receipt, Integer.MAX_VALUE), 0);
    }

    /** The call must throw just this exception and leave the object as one is for which it was never made. */
    void refused(String what, Class<? extends RuntimeException> kind, Supplier<Ferrytax> scene, Consumer<Ferrytax> call) {
        for (BiConsumer<Ferrytax, Probes.Answers> probe : Probes.ALL) {
            Ferrytax touched = scene.get();
            if (!throwsJust(what, kind, touched, call)) {
                return;
            }
            String got = Probes.answers(probe, touched);
            String want = Probes.answers(probe, scene.get());
            if (!got.equals(want)) {
                report(what + " changed something: " + got + " instead of " + want);
            }
        }
    }

    private boolean throwsJust(String what, Class<? extends RuntimeException> kind, Ferrytax x, Consumer<Ferrytax> call) {
        try {
            call.accept(x);
            report(what + " threw nothing, due is " + kind.getName());
            return false;
        } catch (RuntimeException e) {
            if (e.getClass() != kind) {
                report(what + " threw " + e.getClass().getName() + ", due is " + kind.getName());
                return false;
            }
            return true;
        }
    }

    void noSuch(String what, Supplier<Ferrytax> scene, Consumer<Ferrytax> call) {
        refused(what, IndexOutOfBoundsException.class, scene, call);
    }

    void outOfRange(String what, Supplier<Ferrytax> scene, Consumer<Ferrytax> call) {
        refused(what, IllegalArgumentException.class, scene, call);
    }

    void notNow(String what, Supplier<Ferrytax> scene, Consumer<Ferrytax> call) {
        refused(what, IllegalStateException.class, scene, call);
    }

    /** Each number from low to high is taken; the next ones on both sides and those farthest off are refused. */
    void range(String what, Class<? extends RuntimeException> kind, Supplier<Ferrytax> scene, int low, int high,
            NumberedCall call) {
        taken(what, low, () -> call.answer(scene.get(), low));
        taken(what, high, () -> call.answer(scene.get(), high));
        for (int number : new int[] {low - 1, high + 1, Integer.MIN_VALUE, Integer.MAX_VALUE}) {
            refused(what + " " + number, kind, scene, x -> call.answer(x, number));
        }
    }

    void numbers(String what, Supplier<Ferrytax> scene, int count, NumberedCall call) {
        range(what, IndexOutOfBoundsException.class, scene, 0, count - 1, call);
    }

    void values(String what, Supplier<Ferrytax> scene, int low, int high, NumberedCall call) {
        range(what, IllegalArgumentException.class, scene, low, high, call);
    }

    /** At this hour the call is taken, an hour ahead of it refused. */
    void from(String what, int first, IntFunction<Ferrytax> at, Consumer<Ferrytax> call) {
        taken(what + ", hour", first, () -> call.accept(at.apply(first)));
        notNow(what + ", hour " + (first - 1), () -> at.apply(first - 1), call);
    }

    /** At this hour the call is taken, an hour behind it refused. */
    void until(String what, int last, IntFunction<Ferrytax> at, Consumer<Ferrytax> call) {
        taken(what + ", hour", last, () -> call.accept(at.apply(last)));
        notNow(what + ", hour " + (last + 1), () -> at.apply(last + 1), call);
    }

    private void taken(String what, int number, Runnable call) {
        try {
            call.run();
        } catch (RuntimeException e) {
            report(what + " " + number + " threw " + e.getClass().getName() + ", due is an answer");
        }
    }

    /** Lets any number of hours go by, a hundred at a time. */
    static Ferrytax after(Ferrytax x, int hours) {
        for (int left = hours; left > 0; left -= 100) {
            x.pass(Math.min(left, 100));
        }
        return x;
    }

    void end() {
        System.out.println(wrong == 0 ? "all answers are as due" : wrong + " answers are not as due");
        if (wrong != 0) {
            System.exit(1);
        }
    }

    void report(String text) {
        wrong++;
        System.out.println(text);
    }
}
