/** The sentences on tanks, half hours, orders and exceptions. */
final class PassingSentences {
    private PassingSentences() {
    }

    static void test() {
        Sentences.test(0, "At most 3 tanks are numbered from 0.", PassingSentences::tanks);
        Sentences.test(0, "A tank has a capacity from 1 to 2000, a level, initially 0, and a demand from 0 to 200 for"
                + " each of the 48 slots, initially 0.", PassingSentences::tank);
        Sentences.test(0, "There is a price from 0 to 99 for each slot, initially 1.", PassingSentences::prices);
        Sentences.test(0, "A half hour is on or off.", PassingSentences::onOrOff);
        Sentences.test(0, "When it passes, first all trains are looked at in ascending order: those that are being"
                + " cleaned go on with that, and those that are ready run if the half hour is on.",
                PassingSentences::trainsFirst);
        Sentences.test(0, "Then the sum of all products is poured into the tanks in ascending order, into each one up"
                + " to its capacity; what is left is spilled.", PassingSentences::poured);
        Sentences.test(0, "Then each tank serves its demand for the slot: as much as its level is, at most; the level"
                + " decreases by what is served, and what is missing is short.", PassingSentences::served);
        Sentences.test(0, "The cost of the half hour is the sum of the energies times the price for the slot.",
                PassingSentences::cost);
        Sentences.test(0, "At most 6 half hours, the present one or later ones, have an order, which is on or off; an"
                + " order is forgotten when its half hour has passed.", PassingSentences::orders);
        Sentences.test(0, "A method that throws an exception changes nothing.", PassingSentences::nothingChanges);
        Sentences.test(0, "If several exceptions apply, the one that is documented first is thrown.",
                PassingSentences::firstException);
    }

    private static void tanks() {
        MembranePlant plant = new MembranePlant();
        plant.addTrain(10);
        for (int i = 0; i < 3; i++) {
            int tank = i;
            Check.due("tank " + i + " ahead", "throws.IndexOutOfBoundsException",
                    Check.answer(() -> plant.level(tank)));
            Check.dueInt("tank " + i, i, plant.addTank(10 + i));
        }
        Check.due("a fourth one", "throws.IllegalStateException", Check.answer(() -> plant.addTank(5)));
        Check.due("tank 3", "throws.IndexOutOfBoundsException", Check.answer(() -> plant.level(3)));
        plant.pass(true);
        Check.dueLong("all three are poured into", 50 - 33, plant.spilled());
    }

    private static void tank() {
        MembranePlant plant = new MembranePlant();
        plant.addTrain(20);
        plant.addTank(1);
        plant.addTank(2000);
        for (int i = 0; i < 2; i++) {
            Check.dueInt("level, initially", 0, plant.level(i));
            for (int slot = 0; slot < 48; slot++) {
                Check.dueInt("demand for slot " + slot + ", initially", 0, plant.demand(i, slot));
            }
            Check.dueInt("most demand for all 48 slots", 9600, plant.setDemand(i, 0, 47, 200));
            Check.dueInt("most demand in the first slot", 200, plant.demand(i, 0));
            Check.dueInt("most demand in the last slot", 200, plant.demand(i, 47));
            Check.dueInt("least demand for all 48 slots", 0, plant.setDemand(i, 0, 47, 0));
        }
        plant.setPressure(0, 70);
        plant.setSalinity(20);
        for (int i = 0; i < 40; i++) {
            plant.pass(true);
        }
        Check.dueInt("least capacity", 1, plant.level(0));
        Check.dueInt("most capacity", 2000, plant.level(1));
    }

    private static void prices() {
        MembranePlant plant = Plants.small();
        for (int slot = 0; slot < 48; slot++) {
            int energy = plant.energyOf(0);
            long before = plant.cost();
            plant.pass(true);
            Check.dueLong("cost in slot " + slot + ", initially", energy, plant.cost() - before);
        }
        Check.dueInt("all 48, initially 1", 48, plant.setPrice(0, 0, 1));
        for (int price = 0; price <= 99; price += 99) {
            Check.dueInt("all 48 at " + price, 48 * price, plant.setPrice(0, 47, price));
            int energy = plant.energyOf(0);
            long before = plant.cost();
            plant.pass(true);
            Check.dueLong("cost at " + price, (long) energy * price, plant.cost() - before);
        }
    }

    private static void onOrOff() {
        MembranePlant plant = Plants.small();
        Check.dueInt("off, product", 0, plant.pass(false));
        Check.dueLong("off, feed", 0, plant.feed());
        Check.dueLong("off, cost", 0, plant.cost());
        Check.dueInt("off, fouling", 0, plant.fouling(0));
        Check.dueInt("off, level", 0, plant.level(0));
        Check.dueInt("on, product", 50, plant.pass(true));
        Check.dueLong("on, feed", 125, plant.feed());
        Check.dueLong("on, cost", 313, plant.cost());
        Check.dueInt("on, fouling", 2, plant.fouling(0));
        Check.dueInt("on, level", 50, plant.level(0));
    }

    private static void trainsFirst() {
        MembranePlant plant = Plants.withTrains(4);
        plant.clean(0);
        plant.clean(3);
        plant.setDemand(0, 1, 1, 200);
        // 200 less two cleanings are too little without the present half hour's product.
        Check.dueInt("two of four run", 98, plant.pass(true));
        Check.dueInt("what they give is served at once", 0, plant.shortOf(0));
        Check.dueInt("level", 200 - 20 + 98 - 200, plant.level(0));
        Check.dueInt("the first goes on being cleaned", 1, plant.cleaningLeft(0));
        Check.dueInt("the last goes on being cleaned", 1, plant.cleaningLeft(3));
        Check.dueInt("a ready one has run", 4, plant.fouling(1));
        Check.dueInt("none runs if it is off", 0, plant.pass(false));
        Check.dueInt("off, the first is ready", 0, plant.cleaningLeft(0));
        Check.dueInt("off, the last is ready", 0, plant.cleaningLeft(3));
        Check.dueInt("off, a ready one has not run", 4, plant.fouling(2));
        // Foulings of 0, 4, 4 and 0.
        Check.dueInt("all four run", 50 + 48 + 48 + 50, plant.pass(true));
        MembranePlant last = Plants.cleaned(2);
        last.addTrain(10);
        Check.dueInt("it does not run in the last half hour of its cleaning", 50, last.pass(true));
        Check.dueInt("it is ready then", 2, last.readyTrains());
    }

    /** The product is 50; how much is in each tank after the first half hour and after the second one of 49. */
    private static void poured() {
        int[][] rows = {
            // capacities; levels and what was spilled after one half hour; and after two
            {50, 1, 1, 50, 0, 0, 0, 50, 1, 1, 47}, {49, 1, 1, 49, 1, 0, 0, 49, 1, 1, 48},
            {51, 1, 1, 50, 0, 0, 0, 51, 1, 1, 46}, {48, 1, 1, 48, 1, 1, 0, 48, 1, 1, 49},
            {47, 1, 1, 47, 1, 1, 1, 47, 1, 1, 50}, {99, 5, 5, 50, 0, 0, 0, 99, 0, 0, 0},
            {98, 1, 5, 50, 0, 0, 0, 98, 1, 0, 0}, {98, 5, 5, 50, 0, 0, 0, 98, 1, 0, 0},
            {1, 1, 2000, 1, 1, 48, 0, 1, 1, 97, 0}, {1, 2000, 1, 1, 49, 0, 0, 1, 98, 0, 0}};
        for (int[] row : rows) {
            MembranePlant plant = new MembranePlant();
            plant.addTrain(10);
            for (int i = 0; i < 3; i++) {
                plant.addTank(row[i]);
            }
            for (int i = 1; i <= 2; i++) {
                plant.pass(true);
                String name = "capacities " + row[0] + ", " + row[1] + ", " + row[2] + " after " + i + ", ";
                for (int tank = 0; tank < 3; tank++) {
                    Check.dueInt(name + "level " + tank, row[i * 4 - 1 + tank], plant.level(tank));
                }
                Check.dueLong(name + "spilled", row[i * 4 + 2], plant.spilled());
            }
        }
        MembranePlant none = new MembranePlant();
        none.addTrain(10);
        none.pass(true);
        Check.dueLong("without a tank all is spilled", 50, none.spilled());
        MembranePlant full = new MembranePlant();
        full.addTrain(10);
        full.addTank(50);
        full.setDemand(0, 1, 1, 30);
        full.pass(true);
        full.pass(true);
        Check.dueLong("poured ahead of the serving", 49, full.spilled());
    }

    /** The level is 50 when the tank serves; then it is off. */
    private static void served() {
        int[][] rows = {
            // demands in slots 0 and 1, levels and sums of what is short after each
            {0, 0, 50, 0, 50, 0}, {49, 0, 1, 0, 1, 0}, {50, 0, 0, 0, 0, 0}, {51, 0, 0, 1, 0, 1},
            {200, 200, 0, 150, 0, 350}, {20, 29, 30, 0, 1, 0}, {20, 30, 30, 0, 0, 0}, {20, 31, 30, 0, 0, 1},
            {50, 1, 0, 0, 0, 1}, {1, 200, 49, 0, 0, 151}};
        for (int[] row : rows) {
            MembranePlant plant = Plants.small();
            plant.addTank(100);
            plant.setDemand(0, 0, 0, row[0]);
            plant.setDemand(0, 1, 1, row[1]);
            for (int i = 0; i < 2; i++) {
                String name = "demands " + row[0] + " and " + row[1] + " in slot " + i + ", ";
                plant.pass(i == 0);
                Check.dueInt(name + "level", row[2 + 2 * i], plant.level(0));
                Check.dueInt(name + "short", row[3 + 2 * i], plant.shortOf(0));
                Check.dueInt(name + "short of a tank without demand", 0, plant.shortOf(1));
            }
        }
        MembranePlant apart = Plants.small();
        apart.addTank(100);
        apart.setDemand(1, 0, 0, 1);
        apart.pass(true);
        Check.dueInt("an empty tank is short beside a full one", 1, apart.shortOf(1));
        Check.dueInt("the other one keeps its water", 50, apart.level(0));
    }

    private static void cost() {
        int[] prices = {0, 1, 2, 98, 99};
        for (int price : prices) {
            MembranePlant plant = new MembranePlant();
            plant.addTrain(1);
            plant.addTrain(1);
            plant.addTrain(10);
            plant.setRecovery(59);
            plant.setPrice(0, 0, price);
            plant.setPrice(1, 47, 7);
            plant.pass(true);
            // Products 5, 5 and 50, feeds 9, 9 and 85, energies 22.5, 22.5 and 212.5.
            Check.dueLong("at " + price, (23 + 23 + 213) * price, plant.cost());
            plant.pass(false);
            Check.dueLong("off, at 7", (23 + 23 + 213) * price, plant.cost());
        }
    }

    private static void orders() {
        MembranePlant plant = new MembranePlant();
        for (int i = 0; i < 6; i++) {
            Check.dueInt("order " + i, i + 1, plant.order(i == 5 ? Integer.MAX_VALUE : i, i % 2 == 0));
        }
        Check.due("a seventh one", "throws.IllegalStateException", Check.answer(() -> plant.order(5, true)));
        plant.pass(false);
        Check.due("forgotten", "throws.NoSuchElementException", Check.answer(() -> plant.takeBack(0)));
        Check.dueInt("place for another one", 6, plant.order(5, true));
        Check.dueInt("off and on, as ordered", 1, plant.run(2));
        Check.due("forgotten, by run", "throws.NoSuchElementException", Check.answer(() -> plant.takeBack(1)));
        Check.due("forgotten too", "throws.NoSuchElementException", Check.answer(() -> plant.takeBack(2)));
        Check.dueInt("in place of the present one's, two are gone", 4, plant.order(3, true));
        Check.dueBool("the present one, on now", true, plant.takeBack(3));
        Check.dueBool("a later one, on", true, plant.takeBack(4));
        Check.dueBool("a later one, on too", true, plant.takeBack(5));
        Check.dueBool("the latest one, off", false, plant.takeBack(Integer.MAX_VALUE));
        Check.dueInt("none was left", 1, plant.order(Integer.MAX_VALUE, true));
    }

    /** All at once: a plant that refused every call of the face that can throw looks like its twin. */
    private static void nothingChanges() {
        MembranePlant plant = Plants.full();
        Runnable[] calls = {
            () -> plant.addTrain(0), () -> plant.addTrain(5), () -> plant.setPressure(4, 40),
            () -> plant.setPressure(0, 71), () -> plant.setSalinity(36), () -> plant.setRecovery(29),
            () -> plant.clean(-1), () -> plant.clean(1), () -> plant.clean(2), () -> plant.fouling(4),
            () -> plant.wear(4), () -> plant.cleaningLeft(-1), () -> plant.productOf(4), () -> plant.productOf(1),
            () -> plant.energyOf(4), () -> plant.energyOf(1), () -> plant.addTank(0), () -> plant.addTank(9),
            () -> plant.setDemand(3, 0, 0, 0), () -> plant.setDemand(0, 5, 4, 0), () -> plant.setDemand(0, 0, 48, 0),
            () -> plant.setDemand(0, 0, 47, 201), () -> plant.setPrice(-1, 47, 5), () -> plant.setPrice(0, 47, 100),
            () -> plant.demand(3, 0), () -> plant.demand(0, 48), () -> plant.level(3), () -> plant.shortOf(-1),
            () -> plant.run(13), () -> plant.setHorizon(7), () -> plant.order(2, true), () -> plant.order(4, true),
            () -> plant.takeBack(4), () -> plant.bestCost(7), () -> plant.bestCostByTrying(0),
            () -> plant.isOnInBest(7, 0), () -> plant.isOnInBest(6, 6), () -> plant.allowedSchedules(0)};
        // Too little water for the train 2.
        plant.setDemand(0, 3, 3, 200);
        plant.pass(false);
        for (int i = 0; i < calls.length; i++) {
            Runnable call = calls[i];
            Check.dueBool("call " + i + " is refused", true, Check.answer(() -> {
                call.run();
                return "nothing";
            }).startsWith("throws."));
        }
        MembranePlant twin = Plants.full();
        twin.setDemand(0, 3, 3, 200);
        twin.pass(false);
        Check.due("all after them", View.of(twin), View.of(plant));
    }

    private static void due(String name, Class<? extends RuntimeException> kind, Runnable call) {
        Check.due(name, "throws." + kind.getSimpleName(), Check.answer(() -> {
            call.run();
            return "nothing";
        }));
    }

    private static void firstException() {
        MembranePlant full = Plants.full();
        MembranePlant thirsty = Plants.thirsty();
        MembranePlant empty = new MembranePlant();
        empty.addTrain(1);
        Class<IllegalArgumentException> wrong = IllegalArgumentException.class;
        Class<IndexOutOfBoundsException> missing = IndexOutOfBoundsException.class;
        due("addTrain", wrong, () -> full.addTrain(21));
        due("setPressure", missing, () -> full.setPressure(4, 29));
        due("clean, no train and no tank", missing, () -> empty.clean(1));
        due("addTank", wrong, () -> full.addTank(2001));
        due("setDemand, slot", missing, () -> full.setDemand(3, 48, 48, 0));
        due("setDemand, demand", missing, () -> full.setDemand(-1, 0, 0, 201));
        due("demand", missing, () -> full.demand(3, -1));
        due("order", wrong, () -> full.order(2, true));
        due("bestCost", wrong, () -> thirsty.bestCost(7));
        due("bestCostByTrying", wrong, () -> thirsty.bestCostByTrying(7));
        due("isOnInBest, number", wrong, () -> thirsty.isOnInBest(7, 7));
        due("isOnInBest, number, no such half hour", wrong, () -> full.isOnInBest(0, 0));
        due("isOnInBest, index", missing, () -> thirsty.isOnInBest(6, 6));
        MembranePlant drained = new MembranePlant();
        drained.addTrain(20);
        drained.addTank(20);
        drained.pass(true);
        drained.clean(0);
        due("clean, twice without water", IllegalStateException.class, () -> drained.clean(0));
    }
}
