import java.io.IOException;
import java.lang.reflect.Method;
import java.lang.reflect.Modifier;
import java.nio.file.Files;
import java.nio.file.Path;
import java.util.ArrayList;
import java.util.List;
import java.util.function.Supplier;

/** README.md: its example answers as it says, and it names every call of the face. */
public final class ReadmeTest {
    private static final String START = "MembranePlant plant = new MembranePlant();";

    private final List<String> rows = new ArrayList<>();

    private ReadmeTest() {
    }

    public static void main(String[] args) throws IOException {
        String text = Files.readString(Path.of("README.md"));
        new ReadmeTest().example(text);
        for (Method method : MembranePlant.class.getDeclaredMethods()) {
            String name = "`" + method.getName() + "`";
            boolean isPublic = Modifier.isPublic(method.getModifiers());
            Check.dueBool("README.md names " + name, true, !isPublic || text.contains(name));
        }
        Check.end();
    }

    /** Makes the calls of the example and puts each row together from the answer. */
    private void example(String text) {
        MembranePlant plant = new MembranePlant();
        int train = 0;
        int tank = 0;
        row("int train = plant.addTrain(10);", () -> plant.addTrain(10));
        row("int tank = plant.addTank(100);", () -> plant.addTank(100));
        row("plant.setDemand(tank, 0, 47, 10);", () -> plant.setDemand(tank, 0, 47, 10));
        row("plant.setPrice(34, 40, 9);", () -> plant.setPrice(34, 40, 9));
        row("plant.productOf(train);", () -> plant.productOf(train));
        row("plant.energyOf(train);", () -> plant.energyOf(train));
        row("plant.allowedSchedules(4);", () -> plant.allowedSchedules(4));
        row("plant.bestCost(4);", () -> plant.bestCost(4));
        row("plant.isOnInBest(4, 0);", () -> plant.isOnInBest(4, 0));
        row("plant.order(0, false);", () -> plant.order(0, false));
        row("plant.bestCost(4);", () -> plant.bestCost(4));
        row("plant.takeBack(0);", () -> plant.takeBack(0));
        row("plant.run(12);", () -> plant.run(12));
        row("plant.halfHour();", plant::halfHour);
        row("plant.level(tank);", () -> plant.level(tank));
        row("plant.clean(train);", () -> plant.clean(train));
        row("plant.pass(true);", () -> plant.pass(true));
        row("plant.cost();", plant::cost);
        row("plant.isBalanced();", plant::isBalanced);
        row("plant.servedShare();", plant::servedShare);
        Check.due("the example of README.md", rows, rowsOf(text));
    }

    private void row(String call, Supplier<Object> made) {
        rows.add(call + " // " + Check.answer(made).replace("throws.", "throws "));
    }

    /** The rows behind the first one of the example, each one up to its answer. */
    private static List<String> rowsOf(String text) {
        List<String> found = new ArrayList<>();
        int start = text.indexOf(START);
        int end = text.indexOf("```", start + 1);
        if (start < 0 || end < 0) {
            return found;
        }
        for (String line : text.substring(start + START.length(), end).strip().split("\n")) {
            found.add(line.replaceFirst("^(.*;) +// ([^,]*),.*$", "$1 // $2"));
        }
        return found;
    }
}
