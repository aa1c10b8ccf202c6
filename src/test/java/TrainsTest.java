/** Promises 1 to 12: a new object, trains and sea. */
public final class TrainsTest {
    private static final int[] FAR = {Integer.MIN_VALUE, -1, Integer.MAX_VALUE};

    private TrainsTest() {
    }

    public static void main(String[] args) {
        newObject();
        addTrain();
        setPressure();
        setSalinity();
        setRecovery();
        clean();
        cleanRefused();
        foulingByPressure();
        foulingAtMost();
        wear();
        cleaningLeft();
        cleanedAsSetUp();
        productOf();
        energyOf();
        readyTrains();
        noSuchTrain();
        Check.end();
    }

    private static void newObject() {
        MembranePlant plant = new MembranePlant();
        Check.dueInt("1 ready", 0, plant.readyTrains());
        Check.dueInt("1 half hour", 0, plant.halfHour());
        Check.dueInt("1 best cost", 0, plant.bestCost(6));
        Check.dueInt("1 allowed", 64, plant.allowedSchedules(6));
        Check.dueLong("1 feed", 0, plant.feed());
        Check.dueLong("1 product", 0, plant.product());
        Check.dueLong("1 brine", 0, plant.brine());
        Check.dueLong("1 spilled", 0, plant.spilled());
        Check.dueLong("1 spilled by balance", 0, plant.spilledByBalance());
        Check.dueLong("1 cost", 0, plant.cost());
        Check.dueBool("1 balanced", true, plant.isBalanced());
        Check.dueInt("1 salinity", 25, plant.setSalinity(25));
        Check.dueInt("1 recovery", 40, plant.setRecovery(40));
        Check.dueInt("1 horizon", 4, plant.setHorizon(4));
        Check.dueInt("1 prices", 48, plant.setPrice(0, 0, 1));
        Check.dueInt("1 pass", 0, plant.pass(true));
        Check.dueInt("1 first train", 0, plant.addTrain(1));
        Check.dueInt("1 first tank", 0, plant.addTank(1));
    }

    private static void addTrain() {
        MembranePlant plant = new MembranePlant();
        Check.dueInt("2 least area", 0, plant.addTrain(1));
        Check.dueInt("2 most area", 1, plant.addTrain(20));
        Check.dueInt("2 third", 2, plant.addTrain(7));
        Check.dueInt("2 fourth", 3, plant.addTrain(8));
        Check.dueInt("2 area 1", 5, plant.productOf(0));
        Check.dueInt("2 area 20", 100, plant.productOf(1));
        for (int i = 0; i < 4; i++) {
            Check.dueInt("2 fouling", 0, plant.fouling(i));
            Check.dueInt("2 wear", 0, plant.wear(i));
            Check.dueInt("2 left", 0, plant.cleaningLeft(i));
            Check.dueInt("2 pressure", 50, plant.setPressure(i, 50));
        }
        int[] wrong = {0, 21, FAR[0], FAR[1], FAR[2]};
        for (int area : wrong) {
            Check.refused("2 area " + area, IllegalArgumentException.class, Plants::busy, p -> p.addTrain(area));
            Check.refused("2 fifth of " + area, IllegalArgumentException.class, Plants::full, p -> p.addTrain(area));
        }
        Check.refused("2 fifth", IllegalStateException.class, Plants::full, p -> p.addTrain(10));
    }

    private static void setPressure() {
        MembranePlant plant = Plants.busy();
        Check.dueInt("3 initially", 50, plant.setPressure(0, 30));
        Check.dueInt("3 least", 30, plant.setPressure(0, 70));
        Check.dueInt("3 most", 70, plant.setPressure(0, 44));
        Check.dueInt("3 other train", 60, plant.setPressure(1, 31));
        Check.dueInt("3 kept", 44, plant.setPressure(0, 50));
        MembranePlant cleaned = Plants.full();
        Check.dueInt("3 while being cleaned", 60, cleaned.setPressure(1, 45));
        int[] wrong = {29, 71, 0, FAR[0], FAR[1], FAR[2]};
        for (int pressure : wrong) {
            Check.refused("3 pressure " + pressure, IllegalArgumentException.class, Plants::busy,
                    p -> p.setPressure(0, pressure));
            Check.refused("3 no train, pressure " + pressure, IndexOutOfBoundsException.class, Plants::busy,
                    p -> p.setPressure(2, pressure));
        }
    }

    private static void setSalinity() {
        MembranePlant plant = Plants.small();
        Check.dueInt("4 initially", 25, plant.setSalinity(20));
        Check.dueInt("4 product at 20", 60, plant.productOf(0));
        Check.dueInt("4 least", 20, plant.setSalinity(35));
        Check.dueInt("4 product at 35", 30, plant.productOf(0));
        Check.dueInt("4 most", 35, plant.setSalinity(25));
        int[] wrong = {19, 36, 0, FAR[0], FAR[1], FAR[2]};
        for (int salinity : wrong) {
            Check.refused("4 salinity " + salinity, IllegalArgumentException.class, Plants::busy,
                    p -> p.setSalinity(salinity));
        }
    }

    private static void setRecovery() {
        MembranePlant plant = Plants.small();
        Check.dueInt("5 initially", 40, plant.setRecovery(30));
        // 50 of product: a feed of 167 at 30, of 84 at 60.
        Check.dueInt("5 energy at 30", 418, plant.energyOf(0));
        Check.dueInt("5 least", 30, plant.setRecovery(60));
        Check.dueInt("5 energy at 60", 210, plant.energyOf(0));
        Check.dueInt("5 most", 60, plant.setRecovery(40));
        int[] wrong = {29, 61, 0, FAR[0], FAR[1], FAR[2]};
        for (int percent : wrong) {
            Check.refused("5 recovery " + percent, IllegalArgumentException.class, Plants::busy,
                    p -> p.setRecovery(percent));
        }
    }

    private static void clean() {
        int[] foulings = {1, 19, 20, 39, 40, 59, 60, 79, 80, 90, 95};
        int[] halfHours = {2, 2, 3, 3, 4, 4, 5, 5, 6, 6, 6};
        int[] after = {0, 4, 5, 9, 10, 14, 15, 19, 20, 22, 22};
        for (int i = 0; i < foulings.length; i++) {
            MembranePlant plant = Plants.fouled(foulings[i]);
            String name = "6 fouling " + foulings[i];
            int level = plant.level(0);
            Check.dueInt(name + " half hours", halfHours[i], plant.clean(0));
            Check.dueInt(name + " level", level - 10, plant.level(0));
            for (int left = halfHours[i] - 1; left >= 0; left--) {
                Check.dueInt(name + " product", 0, plant.pass(true));
                Check.dueInt(name + " left", left, plant.cleaningLeft(0));
            }
            Check.dueInt(name + " after", after[i], plant.fouling(0));
            Check.dueInt(name + " wear", 1, plant.wear(0));
        }
        MembranePlant exact = new MembranePlant();
        exact.addTrain(20);
        exact.addTank(20);
        exact.pass(true);
        Check.dueInt("6 with just enough", 2, exact.clean(0));
        Check.dueInt("6 takes all", 0, exact.level(0));
    }

    private static MembranePlant almostEnough() {
        MembranePlant plant = new MembranePlant();
        plant.addTrain(20);
        plant.addTank(19);
        plant.addTank(2000);
        plant.pass(true);
        return plant;
    }

    private static MembranePlant withoutTank() {
        MembranePlant plant = new MembranePlant();
        plant.addTrain(1);
        plant.pass(true);
        return plant;
    }

    private static MembranePlant emptyWhileCleaned() {
        MembranePlant plant = new MembranePlant();
        plant.addTrain(20);
        plant.addTank(20);
        plant.pass(true);
        plant.clean(0);
        return plant;
    }

    /** The cleaning of the train has one half hour left. */
    private static MembranePlant lastHalfHour() {
        MembranePlant plant = Plants.fouled(5);
        plant.clean(0);
        plant.pass(true);
        return plant;
    }

    private static void cleanRefused() {
        Check.refused("6 too little", UnsupportedOperationException.class, TrainsTest::almostEnough, p -> p.clean(0));
        Check.refused("6 no tank", UnsupportedOperationException.class, TrainsTest::withoutTank, p -> p.clean(0));
        Check.refused("6 twice", IllegalStateException.class, Plants::full, p -> p.clean(1));
        Check.refused("6 twice and too little", IllegalStateException.class,
                TrainsTest::emptyWhileCleaned, p -> p.clean(0));
        Check.refused("6 in its last half hour", IllegalStateException.class,
                TrainsTest::lastHalfHour, p -> p.clean(0));
        Check.refused("6 no train, no tank", IndexOutOfBoundsException.class,
                TrainsTest::withoutTank, p -> p.clean(1));
    }

    private static void foulingByPressure() {
        int[] pressures = {30, 45, 46, 55, 56, 70};
        int[] steps = {1, 1, 2, 2, 3, 3};
        for (int i = 0; i < pressures.length; i++) {
            MembranePlant plant = Plants.small();
            plant.addTrain(3);
            plant.setPressure(1, pressures[i]);
            plant.setSalinity(35);
            plant.pass(true);
            Check.dueInt("7 at " + pressures[i], steps[i], plant.fouling(1));
            plant.pass(false);
            Check.dueInt("7 off at " + pressures[i], steps[i], plant.fouling(1));
            plant.pass(true);
            Check.dueInt("7 twice at " + pressures[i], 2 * steps[i], plant.fouling(1));
            Check.dueInt("7 other train", 4, plant.fouling(0));
        }
    }

    private static void foulingAtMost() {
        MembranePlant plant = Plants.small();
        plant.setPressure(0, 70);
        for (int i = 0; i < 29; i++) {
            plant.pass(true);
        }
        Check.dueInt("7 29 half hours", 87, plant.fouling(0));
        plant.setPressure(0, 50);
        plant.pass(true);
        Check.dueInt("7 almost most", 89, plant.fouling(0));
        plant.setPressure(0, 70);
        plant.pass(true);
        Check.dueInt("7 most", 90, plant.fouling(0));
        plant.pass(true);
        Check.dueInt("7 at most", 90, plant.fouling(0));
        // 10 * 45 * 10 / 500
        Check.dueInt("7 product", 9, plant.productOf(0));
    }

    private static void wear() {
        MembranePlant plant = new MembranePlant();
        plant.addTrain(1);
        plant.addTrain(20);
        plant.addTank(2000);
        plant.pass(true);
        plant.pass(true);
        int fouling = plant.fouling(0);
        for (int i = 0; i < 23; i++) {
            Check.dueInt("8 before cleaning " + i, Math.min(20, i), plant.wear(0));
            int left = plant.clean(0);
            Check.dueInt("8 during cleaning " + i, Math.min(20, i), plant.wear(0));
            for (int j = 0; j < left; j++) {
                Check.dueInt("8 fouling during cleaning " + i, fouling, plant.fouling(0));
                plant.pass(false);
            }
            fouling = fouling / 4 + Math.min(20, i);
            Check.dueInt("8 fouling after cleaning " + i, fouling, plant.fouling(0));
        }
        Check.dueInt("8 at most", 20, plant.wear(0));
        Check.dueInt("8 other train", 0, plant.wear(1));
    }

    private static void cleaningLeft() {
        MembranePlant plant = Plants.fouled(20);
        plant.addTrain(2);
        Check.dueInt("9 ready", 0, plant.cleaningLeft(0));
        plant.clean(0);
        Check.dueInt("9 begun", 3, plant.cleaningLeft(0));
        Check.dueInt("9 other train", 0, plant.cleaningLeft(1));
        // 2 * 25 * 100 / 500, by the other train alone.
        Check.dueInt("9 product", 10, plant.pass(true));
        Check.dueInt("9 one passed", 2, plant.cleaningLeft(0));
        plant.pass(false);
        Check.dueInt("9 two passed", 1, plant.cleaningLeft(0));
        // 2 * 25 * 98 / 500 = 9.8: the train that becomes ready doesn't run yet.
        Check.dueInt("9 last product", 9, plant.pass(true));
        Check.dueInt("9 ready again", 0, plant.cleaningLeft(0));
        Check.dueInt("9 fouling", 5, plant.fouling(0));
        // 10 * 20 * 95 / 500 and 2 * 25 * 96 / 500 = 9.6.
        Check.dueInt("9 next product", 38 + 9, plant.pass(true));
        Check.dueInt("9 next fouling", 6, plant.fouling(0));
    }

    /** A cleaning is as long as the fouling at its beginning says, whatever is set afterwards. */
    private static void cleanedAsSetUp() {
        MembranePlant plant = Plants.fouled(8);
        plant.clean(0);
        plant.setPressure(0, 70);
        plant.pass(true);
        Check.dueInt("6 does not foul", 8, plant.fouling(0));
        plant.pass(true);
        Check.dueInt("6 a quarter", 2, plant.fouling(0));
        Check.dueInt("6 new pressure", 10 * 45 * 98 / 500, plant.productOf(0));
    }

    private static void productOf() {
        int[][] rows = {
            // area, pressure, salinity, product
            {7, 52, 25, 37}, {20, 70, 20, 200}, {1, 30, 25, 1}, {20, 30, 35, 0}, {20, 34, 35, 0},
            {20, 35, 35, 0}, {20, 36, 35, 4}, {1, 35, 31, 0}, {1, 36, 31, 1}, {13, 47, 33, 36}};
        for (int[] row : rows) {
            MembranePlant plant = new MembranePlant();
            plant.addTrain(row[0]);
            plant.setPressure(0, row[1]);
            plant.setSalinity(row[2]);
            String name = "10 area " + row[0] + " at " + row[1] + " and " + row[2];
            Check.dueInt(name, row[3], plant.productOf(0));
            Check.dueInt(name + " again", row[3], plant.productOf(0));
            Check.dueInt(name + " passed", row[3], plant.pass(true));
        }
        // 10 * 25 * 98 / 500 and 10 * 25 * 96 / 500
        MembranePlant plant = Plants.small();
        plant.pass(true);
        Check.dueInt("10 fouling 2", 49, plant.productOf(0));
        plant.pass(true);
        Check.dueInt("10 fouling 4", 48, plant.productOf(0));
        Check.refused("10 being cleaned", IllegalStateException.class, Plants::full, p -> p.productOf(1));
        Check.refused("10 in its last half hour", IllegalStateException.class,
                TrainsTest::lastHalfHour, p -> p.productOf(0));
    }

    private static void energyOf() {
        int[][] rows = {
            // area, pressure, salinity, recovery, energy
            {10, 50, 25, 40, 313}, {8, 50, 25, 40, 250}, {7, 52, 25, 40, 242}, {20, 70, 20, 30, 2335},
            {20, 30, 35, 30, 0}, {1, 30, 25, 60, 3}, {13, 47, 33, 37, 231},
            // A feed of 100 / 33, just above 3; an energy of 7 * 43 / 20, just above 15.
            {1, 30, 25, 33, 6}, {1, 43, 30, 30, 16}};
        for (int[] row : rows) {
            MembranePlant plant = new MembranePlant();
            plant.addTrain(row[0]);
            plant.setPressure(0, row[1]);
            plant.setSalinity(row[2]);
            plant.setRecovery(row[3]);
            String name = "11 area " + row[0] + " at " + row[1] + ", " + row[2] + " and " + row[3];
            Check.dueInt(name, row[4], plant.energyOf(0));
            plant.pass(true);
            Check.dueLong(name + " passed", row[4], plant.cost());
        }
        // 49 of product, a feed of 122.5.
        MembranePlant plant = Plants.small();
        plant.pass(true);
        Check.dueInt("11 fouling 2", 308, plant.energyOf(0));
        Check.refused("11 being cleaned", IllegalStateException.class, Plants::full, p -> p.energyOf(1));
        Check.refused("11 in its last half hour", IllegalStateException.class,
                TrainsTest::lastHalfHour, p -> p.energyOf(0));
    }

    private static void readyTrains() {
        Check.dueInt("12 all", 2, Plants.busy().readyTrains());
        MembranePlant plant = Plants.full();
        Check.dueInt("12 one is cleaned", 3, plant.readyTrains());
        plant.clean(0);
        Check.dueInt("12 two are cleaned", 2, plant.readyTrains());
        plant.pass(true);
        Check.dueInt("12 still", 2, plant.readyTrains());
        plant.pass(true);
        Check.dueInt("12 ready again", 4, plant.readyTrains());
    }

    private static void noSuchTrain() {
        int[] wrong = {2, 3, 4, FAR[0], FAR[1], FAR[2]};
        for (int train : wrong) {
            String name = "no train " + train;
            Class<IndexOutOfBoundsException> kind = IndexOutOfBoundsException.class;
            Check.refused("3 " + name, kind, Plants::busy, p -> p.setPressure(train, 50));
            Check.refused("6 " + name, kind, Plants::busy, p -> p.clean(train));
            Check.refused("7 " + name, kind, Plants::busy, p -> p.fouling(train));
            Check.refused("8 " + name, kind, Plants::busy, p -> p.wear(train));
            Check.refused("9 " + name, kind, Plants::busy, p -> p.cleaningLeft(train));
            Check.refused("10 " + name, kind, Plants::busy, p -> p.productOf(train));
            Check.refused("11 " + name, kind, Plants::busy, p -> p.energyOf(train));
        }
        Check.refused("7 fifth train", IndexOutOfBoundsException.class, Plants::full, p -> p.fouling(4));
    }
}
