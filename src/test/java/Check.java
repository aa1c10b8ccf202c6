import java.util.function.Consumer;
import java.util.function.Supplier;

/** Compares answers with those that are due, and ends a test with exit code 1 if one differs. */
final class Check {
    private static int wrong;
    private static int looked;
    private static String about = "";

    private Check() {
    }

    /** Names what the next answers are about, ahead of every answer that is not as due. */
    static void about(String name) {
        about = name;
    }

    static int looked() {
        return looked;
    }

    static void due(String what, Object want, Object got) {
        looked++;
        if (!want.equals(got)) {
            wrong++;
            System.out.println(about + what + ": answered " + got + ", due is " + want);
        }
    }

    static void dueInt(String what, int want, int got) {
        due(what, want, got);
    }

    static void dueLong(String what, long want, long got) {
        due(what, want, got);
    }

    static void dueBool(String what, boolean want, boolean got) {
        due(what, want, got);
    }

    /** The answer as a text: a value, or "throws." and the exact name of the exception. */
    static String answer(Supplier<Object> call) {
        try {
            return String.valueOf(call.get());
        } catch (RuntimeException e) {
            return "throws." + e.getClass().getSimpleName();
        }
    }

    /** The call throws nothing. */
    static void taken(String what, MembranePlant plant, Consumer<MembranePlant> call) {
        due(what, "taken", answer(() -> {
            call.accept(plant);
            return "taken";
        }));
    }

    /**
     * The call throws exactly this exception and changes nothing: a plant made by the same recipe
     * that never saw the call looks the same afterwards.
     */
    static void refused(String what, Class<? extends RuntimeException> kind,
            Supplier<MembranePlant> recipe, Consumer<MembranePlant> call) {
        MembranePlant plant = recipe.get();
        String got = answer(() -> {
            call.accept(plant);
            return "nothing";
        });
        due(what, "throws." + kind.getSimpleName(), got);
        due(what + " changes nothing", View.of(recipe.get()), View.of(plant));
    }

    static void end() {
        System.out.println(looked + " answers looked at, " + wrong + " not as due");
        if (wrong != 0 || looked == 0) {
            System.exit(1);
        }
    }
}
