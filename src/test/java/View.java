/**
 * All that the face tells of a plant, in one text. It uses the plant up: some things, such as
 * settings and orders, can only be read by changing them. It takes about 300 calls.
 */
final class View {
    private final MembranePlant plant;
    private final StringBuilder text = new StringBuilder();

    private View(MembranePlant plant) {
        this.plant = plant;
    }

    static String of(MembranePlant plant) {
        View view = new View(plant);
        view.readTrains();
        view.readTanks();
        view.readSchedules();
        view.readMeters();
        view.useUp();
        return view.text.toString();
    }

    /** What the calls tell that change something, and then all meters. */
    static String afterUse(MembranePlant plant) {
        View view = new View(plant);
        view.useUp();
        view.readTrains();
        view.readTanks();
        view.readMeters();
        return view.text.toString();
    }

    private void put(String name, java.util.function.Supplier<Object> call) {
        text.append(name).append('=').append(Check.answer(call)).append(' ');
    }

    private void readTrains() {
        put("ready", plant::readyTrains);
        for (int i = 0; i < 4; i++) {
            int train = i;
            put("fouling", () -> plant.fouling(train));
            put("wear", () -> plant.wear(train));
            put("left", () -> plant.cleaningLeft(train));
            put("product", () -> plant.productOf(train));
            put("energy", () -> plant.energyOf(train));
        }
    }

    private void readTanks() {
        for (int i = 0; i < 3; i++) {
            int tank = i;
            put("level", () -> plant.level(tank));
            put("short", () -> plant.shortOf(tank));
            for (int j = 0; j < 48; j++) {
                int slot = j;
                put("demand", () -> plant.demand(tank, slot));
            }
        }
    }

    private void readSchedules() {
        put("halfHour", plant::halfHour);
        for (int i = 1; i <= 6; i++) {
            int length = i;
            put("best", () -> plant.bestCost(length));
            put("allowed", () -> plant.allowedSchedules(length));
            put("isOn", () -> plant.isOnInBest(6, length - 1));
        }
    }

    private void readMeters() {
        put("feed", plant::feed);
        put("product", plant::product);
        put("brine", plant::brine);
        put("spilled", plant::spilled);
        put("byBalance", plant::spilledByBalance);
        put("cost", plant::cost);
        put("balanced", plant::isBalanced);
        put("share", plant::servedShare);
        put("mean", plant::meanCost);
    }

    private void useUp() {
        put("salinity", () -> plant.setSalinity(25));
        put("recovery", () -> plant.setRecovery(40));
        put("horizon", () -> plant.setHorizon(4));
        for (int i = 0; i < 4; i++) {
            int train = i;
            put("pressure", () -> plant.setPressure(train, 50));
        }
        int present = plant.halfHour();
        for (int i = -1; i < 20; i++) {
            int halfHour = present + i;
            put("order", () -> plant.takeBack(halfHour));
        }
        for (int i = 0; i < 48; i++) {
            int slot = i;
            put("prices", () -> plant.setPrice(slot, slot, 0));
        }
        put("train", () -> plant.addTrain(1));
        put("tank", () -> plant.addTank(1));
        put("on", () -> plant.run(12));
    }
}
