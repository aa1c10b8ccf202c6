/** Promises 29 to 37, line by line. */
final class MeterSentences {
    private MeterSentences() {
    }

    static void test() {
        sums();
        Sentences.test(35, "Returns whether the sum of all feeds is that of all products and all brine, and spilled()"
                + " and spilledByBalance() are the same.", MeterSentences::isBalanced);
        Sentences.test(36, "Returns the sum of all that was served divided by the sum of all demands of the half hours"
                + " that have passed, both converted to float.", MeterSentences::servedShare);
        Sentences.test(36, "Throws `ArithmeticException` if that sum is 0", MeterSentences::noShare);
        Sentences.test(37, "Returns the sum of all costs divided by the number of half hours that have passed, both"
                + " converted to double.", MeterSentences::meanCost);
        Sentences.test(37, "Throws `ArithmeticException` if none has passed", MeterSentences::noMean);
    }

    private static void sums() {
        Sentences.test(29, "Returns the sum of all feeds so far.",
                () -> sum(MembranePlant::feed, 0, 125, 125, 125 + 123, 125 + 123 + 95 + 75));
        Sentences.test(30, "Returns the sum of all products so far.",
                () -> sum(MembranePlant::product, 0, 50, 50, 99, 99 + 38 + 30));
        Sentences.test(31, "Returns the sum of all brine so far.",
                () -> sum(MembranePlant::brine, 0, 75, 75, 75 + 74, 75 + 74 + 57 + 45));
        Sentences.test(32, "Returns the sum of all that was spilled so far.",
                () -> sum(MembranePlant::spilled, 0, 0, 0, 19, 19 + 68));
        Sentences.test(33, "Returns the sum of all that was spilled so far, found as what is missing: the sum of all"
                + " products minus all that was served, all that cleanings took, and all levels.", () -> {
            sum(MembranePlant::spilledByBalance, 0, 0, 0, 19, 19 + 68);
            MembranePlant none = new MembranePlant();
            none.addTrain(10);
            none.pass(true);
            Check.dueLong("without a tank", 50, none.spilledByBalance());
            MembranePlant cleaned = Plants.cleaned(0);
            long before = Plants.fouled(20).spilledByBalance();
            Check.dueLong("what a cleaning took was not spilled", before, cleaned.spilledByBalance());
            cleaned.setDemand(0, 20, 20, 200);
            cleaned.pass(true);
            Check.dueLong("what was served was not spilled, nor what is short", before, cleaned.spilledByBalance());
        });
        Sentences.test(34, "Returns the sum of all costs so far.",
                () -> sum(MembranePlant::cost, 0, 313 * 2, 313 * 2, 313 * 2 + 308, 313 * 2 + 308 + (214 + 188) * 99));
    }

    private interface Meter {
        long read(MembranePlant plant);
    }

    /** Reads a new plant and one after each of four half hours. */
    private static void sum(Meter meter, long start, long first, long off, long third, long fourth) {
        MembranePlant plant = new MembranePlant();
        plant.addTrain(10);
        plant.addTank(60);
        plant.addTank(20);
        plant.setPrice(0, 0, 2);
        plant.setPrice(3, 3, 99);
        plant.setDemand(0, 3, 3, 11);
        Check.dueLong("initially", start, meter.read(plant));
        plant.bestCost(6);
        plant.bestCostByTrying(6);
        plant.allowedSchedules(6);
        Check.dueLong("asked for schedules", start, meter.read(plant));
        plant.pass(true);
        Check.dueLong("on", first, meter.read(plant));
        plant.pass(false);
        Check.dueLong("off", off, meter.read(plant));
        plant.pass(true);
        Check.dueLong("on again", third, meter.read(plant));
        plant.setPressure(0, 45);
        plant.addTrain(6);
        plant.order(3, true);
        plant.run(1);
        Check.dueLong("run with a second train", fourth, meter.read(plant));
    }

    private static void isBalanced() {
        Check.dueBool("new", true, new MembranePlant().isBalanced());
        for (int i = 0; i <= 4; i++) {
            for (int tanks = 0; tanks <= 3; tanks++) {
                MembranePlant plant = Plants.withTanks(tanks);
                for (int train = 0; train < i && train < 3; train++) {
                    plant.addTrain(1 + 6 * train);
                }
                for (int j = 0; j < 60; j++) {
                    if (j % 9 == 3) {
                        Check.answer(() -> plant.clean(0));
                    }
                    plant.pass(j % 4 != 1);
                    Check.dueBool(i + " trains and " + tanks + " tanks after " + j, true, plant.isBalanced());
                }
            }
        }
    }

    private static void servedShare() {
        int[][] rows = {
            // demands of the half hours 0 and 1, served of them
            {50, 0, 50, 0}, {51, 0, 50, 0}, {49, 0, 49, 0}, {1, 0, 1, 0}, {200, 200, 50, 0}, {0, 200, 0, 50},
            {20, 31, 20, 30}, {0, 7, 0, 7}, {150, 0, 50, 0}, {3, 200, 3, 47}};
        for (int[] row : rows) {
            MembranePlant plant = Plants.small();
            plant.setDemand(0, 0, 0, row[0]);
            plant.setDemand(0, 1, 1, row[1]);
            // What comes later is not counted.
            plant.setDemand(0, 2, 47, 200);
            String name = "demands " + row[0] + " and " + row[1];
            plant.pass(true);
            String first = row[0] == 0 ? "throws.ArithmeticException" : String.valueOf((float) row[2] / (float) row[0]);
            Check.due(name + ", the first", first, Check.answer(plant::servedShare));
            plant.pass(false);
            float both = (float) (row[2] + row[3]) / (float) (row[0] + row[1]);
            Check.due(name + ", both", both, plant.servedShare());
        }
        MembranePlant none = Plants.small();
        none.setDemand(0, 0, 0, 9);
        none.pass(false);
        Check.due("nothing served", 0f, none.servedShare());
        MembranePlant late = Plants.small();
        late.setDemand(0, 0, 0, 40);
        late.pass(true);
        late.addTank(10);
        late.setDemand(1, 0, 0, 40);
        late.setDemand(0, 0, 47, 0);
        Check.due("tables set afterwards do not count", 1f, late.servedShare());
    }

    private static void noShare() {
        Class<ArithmeticException> kind = ArithmeticException.class;
        Check.refused("new", kind, MembranePlant::new, p -> p.servedShare());
        Check.refused("without demand", kind, () -> Plants.withTrains(1), p -> p.servedShare());
        Check.refused("without a tank", kind, () -> Plants.withTanks(0), p -> p.servedShare());
        Check.refused("demand for the present half hour", kind, () -> {
            MembranePlant plant = Plants.withTrains(1);
            plant.setDemand(0, 1, 47, 200);
            return plant;
        }, p -> p.servedShare());
        MembranePlant least = Plants.small();
        least.setDemand(0, 0, 0, 1);
        least.pass(false);
        Check.taken("demand of 1", least, p -> p.servedShare());
    }

    private static void meanCost() {
        MembranePlant plant = Plants.small();
        plant.pass(false);
        Check.due("nothing in one", 0.0, plant.meanCost());
        plant.pass(true);
        Check.due("313 in two", 313.0 / 2.0, plant.meanCost());
        plant.run(1);
        Check.due("313 in three", 313.0 / 3.0, plant.meanCost());
        plant.bestCost(6);
        plant.bestCostByTrying(6);
        Check.due("asked for schedules", 313.0 / 3.0, plant.meanCost());
        MembranePlant one = Plants.small();
        one.setPrice(0, 0, 99);
        one.pass(true);
        Check.due("one half hour", 313.0 * 99.0, one.meanCost());
    }

    private static void noMean() {
        Check.refused("new", ArithmeticException.class, MembranePlant::new, p -> p.meanCost());
        Check.refused("set up, and ordered", ArithmeticException.class, () -> {
            MembranePlant plant = Plants.small();
            plant.order(0, true);
            return plant;
        }, p -> p.meanCost());
        MembranePlant passed = new MembranePlant();
        passed.pass(false);
        Check.taken("one has passed, without trains", passed, p -> p.meanCost());
    }
}
