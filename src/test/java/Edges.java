import java.util.NoSuchElementException;
import java.util.function.ObjIntConsumer;
import java.util.function.Supplier;

/** Boundaries that several sentences name: what is taken up to them, and refused beyond. */
final class Edges {
    private Edges() {
    }

    /** The call takes every number from least to most. */
    static void taken(int least, int most, Supplier<MembranePlant> recipe, ObjIntConsumer<MembranePlant> call) {
        for (int i = least; i <= most; i++) {
            int number = i;
            Check.taken("with " + number, recipe.get(), p -> call.accept(p, number));
        }
    }

    /** The call refuses what is just outside, far outside and of the other sign. */
    static void outside(int least, int most, Supplier<MembranePlant> recipe, ObjIntConsumer<MembranePlant> call) {
        int[] numbers = {least - 1, most + 1, -least - 1, -most, 256 + least, Integer.MIN_VALUE, Integer.MAX_VALUE};
        for (int number : numbers) {
            if (number < least || number > most) {
                refused(IllegalArgumentException.class, recipe, call, number);
            }
        }
    }

    private static void refused(Class<? extends RuntimeException> kind, Supplier<MembranePlant> recipe,
            ObjIntConsumer<MembranePlant> call, int number) {
        Check.refused("with " + number, kind, recipe, p -> call.accept(p, number));
    }

    /** The call takes the numbers of the trains that are there and refuses all others. */
    static void noSuchTrain(ObjIntConsumer<MembranePlant> call) {
        for (int i = 0; i <= 4; i++) {
            int count = i;
            noSuch(count, () -> Plants.withTrains(count), call);
        }
    }

    /** The call takes the numbers of the tanks that are there and refuses all others. */
    static void noSuchTank(ObjIntConsumer<MembranePlant> call) {
        for (int i = 0; i <= 3; i++) {
            int count = i;
            noSuch(count, () -> Plants.withTanks(count), call);
        }
    }

    private static void noSuch(int count, Supplier<MembranePlant> recipe, ObjIntConsumer<MembranePlant> call) {
        taken(0, count - 1, recipe, call);
        int[] numbers = {-1, count, count + 1, 256, Integer.MIN_VALUE, Integer.MAX_VALUE};
        for (int number : numbers) {
            refused(IndexOutOfBoundsException.class, recipe, call, number);
        }
    }

    /** The call is refused from the beginning of a cleaning to its last half hour, and taken before and after. */
    static void beingCleaned(ObjIntConsumer<MembranePlant> call) {
        Check.taken("before", Plants.fouled(20), p -> call.accept(p, 0));
        for (int i = 0; i < 3; i++) {
            int passed = i;
            Check.refused("when " + passed + " of 3 have passed", IllegalStateException.class,
                    () -> Plants.cleaned(passed), p -> call.accept(p, 0));
        }
        Check.taken("after", Plants.cleaned(3), p -> call.accept(p, 0));
    }

    /** The call asks for this many half hours, and none has water for the last one of them. */
    static void noneAllowed(ObjIntConsumer<MembranePlant> call) {
        for (int i = 1; i <= 6; i++) {
            int halfHours = i;
            refused(NoSuchElementException.class, () -> Plants.shortAt(halfHours - 1), call, halfHours);
            Check.taken("one is allowed for " + halfHours, Plants.shortAt(halfHours), p -> call.accept(p, halfHours));
        }
    }
}
