/** The sentences on running and cleaning. */
final class RunningSentences {
    private RunningSentences() {
    }

    static void test() {
        Sentences.test(0, "When a train runs for a half hour, its product is its area, times the difference of its"
                + " pressure and the salinity, times the difference of 100 and its fouling, divided by 500, rounded"
                + " down; it is 0 if the pressure is less than the salinity.", RunningSentences::product);
        Sentences.test(0, "Its feed is its product times 100, divided by the recovery, rounded up; its brine is its"
                + " feed minus its product.", RunningSentences::feed);
        Sentences.test(0, "Its energy is its feed times its pressure, divided by 20, rounded up.",
                RunningSentences::energy);
        Sentences.test(0, "Then its fouling increases by 1 if its pressure is at most 45, by 2 if it is 46 to 55, and"
                + " by 3 if it is more, but to at most 90.", RunningSentences::fouling);
        Sentences.test(0, "The cleaning of a train takes 2 half hours plus its fouling divided by 20, rounded down,"
                + " and takes as much water out of the tank 0 as the area of the train is.",
                RunningSentences::cleaningBegins);
        Sentences.test(0, "In each half hour that passes, the half hours that a train being cleaned has left decrease"
                + " by 1; when none is left, it is ready from the next half hour on, its fouling becomes a quarter of"
                + " what it was, rounded down, plus its wear, and its wear increases by 1, but to at most 20.",
                RunningSentences::cleaningPasses);
    }

    private static MembranePlant train(int area, int pressure, int salinity, int fouling) {
        MembranePlant plant = new MembranePlant();
        plant.addTrain(area);
        plant.setPressure(0, 45);
        for (int i = 0; i < fouling; i++) {
            plant.pass(true);
        }
        plant.setPressure(0, pressure);
        plant.setSalinity(salinity);
        return plant;
    }

    private static void product() {
        int[][] rows = {
            // area, pressure, salinity, fouling, product
            {1, 50, 25, 0, 5}, {1, 50, 25, 1, 4}, {1, 50, 25, 20, 4}, {1, 50, 25, 21, 3}, {1, 44, 25, 0, 3},
            {1, 45, 25, 0, 4}, {20, 70, 20, 0, 200}, {20, 70, 20, 90, 20}, {1, 70, 20, 90, 1}, {1, 69, 20, 90, 0},
            {3, 38, 25, 1, 7}, {20, 36, 25, 1, 43}, {17, 70, 23, 0, 159}, {5, 36, 35, 0, 1}, {4, 36, 35, 0, 0},
            {20, 36, 35, 0, 4}, {20, 35, 35, 0, 0}, {20, 34, 35, 0, 0}, {20, 30, 35, 0, 0}, {1, 34, 35, 0, 0},
            {1, 30, 35, 90, 0}, {20, 30, 35, 90, 0}};
        for (int[] row : rows) {
            String name = "area " + row[0] + " at " + row[1] + ", " + row[2] + ", fouling " + row[3];
            MembranePlant plant = train(row[0], row[1], row[2], row[3]);
            long before = plant.product();
            Check.dueInt(name + ", asked", row[4], plant.productOf(0));
            Check.dueInt(name + ", passed", row[4], plant.pass(true));
            Check.dueLong(name + ", sum", before + row[4], plant.product());
        }
    }

    private static void feed() {
        int[][] rows = {
            // area, pressure, salinity, recovery, product, feed
            {10, 50, 25, 40, 50, 125}, {7, 50, 25, 40, 35, 88}, {3, 30, 25, 30, 3, 10}, {3, 30, 25, 60, 3, 5},
            {1, 30, 25, 50, 1, 2}, {1, 30, 25, 51, 1, 2}, {1, 30, 25, 49, 1, 3}, {1, 30, 25, 33, 1, 4},
            {1, 30, 25, 34, 1, 3}, {20, 70, 20, 30, 200, 667}, {20, 70, 20, 60, 200, 334}, {1, 30, 30, 30, 0, 0},
            {20, 30, 35, 30, 0, 0}};
        for (int[] row : rows) {
            String name = "product " + row[4] + " at " + row[3];
            MembranePlant plant = train(row[0], row[1], row[2], 0);
            plant.setRecovery(row[3]);
            Check.dueInt(name + ", product", row[4], plant.pass(true));
            Check.dueLong(name + ", feed", row[5], plant.feed());
            Check.dueLong(name + ", brine", row[5] - row[4], plant.brine());
        }
        MembranePlant two = new MembranePlant();
        two.addTrain(1);
        two.addTrain(1);
        two.setRecovery(33);
        two.setPressure(0, 30);
        two.setPressure(1, 30);
        two.pass(true);
        Check.dueLong("each train's feed is rounded", 8, two.feed());
        Check.dueLong("each train's brine", 6, two.brine());
    }

    private static void energy() {
        int[][] rows = {
            // area, pressure, salinity, recovery, energy; ahead of each the feed times the pressure
            {10, 50, 25, 40, 313}, // 125 * 50 = 6250
            {8, 30, 25, 40, 30}, // 20 * 30 = 600
            {1, 43, 30, 30, 16}, // 7 * 43 = 301
            {4, 30, 25, 57, 12}, // 8 * 30 = 240, 4 of product are 7.02 of feed
            {1, 30, 25, 33, 6}, // 4 * 30 = 120
            {1, 33, 28, 33, 7}, // 4 * 33 = 132
            {1, 39, 34, 30, 8}, // 4 * 39 = 156
            {20, 70, 20, 30, 2335}, // 667 * 70 = 46690
            {20, 30, 35, 30, 0}};
        for (int[] row : rows) {
            String name = "area " + row[0] + " at " + row[1] + ", " + row[2] + " and " + row[3];
            MembranePlant plant = train(row[0], row[1], row[2], 0);
            plant.setRecovery(row[3]);
            Check.dueInt(name + ", asked", row[4], plant.energyOf(0));
            plant.pass(true);
            Check.dueLong(name + ", passed", row[4], plant.cost());
        }
        MembranePlant two = Plants.small();
        two.addTrain(10);
        two.pass(true);
        Check.dueLong("each train's energy is rounded", 2 * 313, two.cost());
    }

    private static void fouling() {
        int[][] rows = {
            // pressure, fouling before, fouling after
            {30, 0, 1}, {45, 0, 1}, {46, 0, 2}, {55, 0, 2}, {56, 0, 3}, {70, 0, 3},
            {45, 88, 89}, {45, 89, 90}, {45, 90, 90}, {46, 87, 89}, {46, 88, 90}, {55, 89, 90}, {55, 90, 90},
            {56, 86, 89}, {56, 87, 90}, {56, 88, 90}, {56, 89, 90}, {70, 90, 90}};
        for (int[] row : rows) {
            String name = "fouling " + row[1] + " at " + row[0];
            MembranePlant plant = Plants.fouled(row[1]);
            plant.setPressure(0, row[0]);
            plant.pass(false);
            Check.dueInt(name + ", off", row[1], plant.fouling(0));
            int product = 10 * (row[0] - 25) * (100 - row[1]) / 500;
            Check.dueInt(name + ", product by the fouling before", product, plant.pass(true));
            Check.dueInt(name + ", on", row[2], plant.fouling(0));
        }
        MembranePlant dry = train(20, 30, 35, 0);
        dry.pass(true);
        Check.dueInt("without a product", 1, dry.fouling(0));
    }

    private static void cleaningBegins() {
        int[][] rows = {
            // fouling, half hours
            {1, 2}, {19, 2}, {20, 3}, {39, 3}, {40, 4}, {59, 4}, {60, 5}, {79, 5}, {80, 6}, {90, 6}};
        for (int[] row : rows) {
            MembranePlant plant = Plants.fouled(row[0]);
            String name = "fouling " + row[0];
            int level = plant.level(0);
            Check.dueInt(name + ", half hours", row[1], plant.clean(0));
            Check.dueInt(name + ", left", row[1], plant.cleaningLeft(0));
            Check.dueInt(name + ", level", level - 10, plant.level(0));
            Check.dueInt(name + ", fouling", row[0], plant.fouling(0));
        }
        MembranePlant plant = Plants.fouled(4);
        plant.addTrain(20);
        plant.addTrain(1);
        plant.addTank(50);
        plant.pass(true);
        plant.addTrain(20);
        Check.dueInt("level, full", 100, plant.level(0));
        Check.dueInt("a train that never ran", 2, plant.clean(3));
        Check.dueInt("level, less the most area", 80, plant.level(0));
        Check.dueInt("least area", 2, plant.clean(2));
        Check.dueInt("level, less the least area", 79, plant.level(0));
        Check.dueInt("the tank 1 is not asked", 50, plant.level(1));
    }

    private static void cleaningPasses() {
        int[][] rows = {
            // fouling before, fouling after
            {1, 0}, {3, 0}, {4, 1}, {7, 1}, {8, 2}, {39, 9}, {40, 10}, {87, 21}, {88, 22}, {90, 22}};
        for (int[] row : rows) {
            MembranePlant plant = Plants.fouled(row[0]);
            String name = "fouling " + row[0];
            for (int left = plant.clean(0) - 1; left >= 0; left--) {
                Check.dueInt(name + ", fouling while being cleaned", row[0], plant.fouling(0));
                Check.dueInt(name + ", wear while being cleaned", 0, plant.wear(0));
                Check.dueInt(name + ", product while being cleaned", 0, plant.pass(left % 2 == 0));
                Check.dueInt(name + ", left", left, plant.cleaningLeft(0));
                Check.dueInt(name + ", ready", left == 0 ? 1 : 0, plant.readyTrains());
            }
            Check.dueInt(name + ", fouling after", row[1], plant.fouling(0));
            Check.dueInt(name + ", wear after", 1, plant.wear(0));
            Check.dueInt(name + ", product after", 10 * 20 * (100 - row[1]) / 500, plant.pass(true));
            Check.dueInt(name + ", none is left", 0, plant.cleaningLeft(0));
            Check.dueInt(name + ", fouling once more", row[1] + 1, plant.fouling(0));
        }
        wearAtMost();
    }

    private static void wearAtMost() {
        MembranePlant plant = Plants.fouled(21);
        plant.addTrain(20);
        int fouling = 21;
        for (int i = 0; i < 24; i++) {
            int wear = i < 20 ? i : 20;
            Check.dueInt("wear after " + i + " cleanings", wear, plant.wear(0));
            plant.run(plant.clean(0));
            fouling = fouling / 4 + wear;
            Check.dueInt("fouling after " + (i + 1) + " cleanings", fouling, plant.fouling(0));
            plant.pass(true);
            fouling++;
        }
        Check.dueInt("wear of another train", 0, plant.wear(1));
    }
}
