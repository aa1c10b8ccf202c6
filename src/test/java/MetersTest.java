/** Promises 29 to 37: meters. */
public final class MetersTest {
    private MetersTest() {
    }

    public static void main(String[] args) {
        water();
        feedRoundsUpForEachTrain();
        spilled();
        balanceAfterCleanings();
        cost();
        servedShare();
        servedShareRefused();
        meanCost();
        Check.end();
    }

    private static void due(String name, MembranePlant plant, long feed, long product, long spilled, long cost) {
        Check.dueLong("29 " + name, feed, plant.feed());
        Check.dueLong("30 " + name, product, plant.product());
        Check.dueLong("31 " + name, feed - product, plant.brine());
        Check.dueLong("32 " + name, spilled, plant.spilled());
        Check.dueLong("33 " + name, spilled, plant.spilledByBalance());
        Check.dueLong("34 " + name, cost, plant.cost());
        Check.dueBool("35 " + name, true, plant.isBalanced());
    }

    private static void water() {
        MembranePlant plant = Plants.small();
        due("new", plant, 0, 0, 0, 0);
        plant.pass(true);
        due("once", plant, 125, 50, 0, 313);
        plant.pass(true);
        due("twice", plant, 125 + 123, 50 + 49, 0, 313 + 308);
        plant.pass(false);
        due("off", plant, 125 + 123, 50 + 49, 0, 313 + 308);
        plant.productOf(0);
        plant.energyOf(0);
        plant.bestCost(6);
        plant.bestCostByTrying(6);
        due("asked", plant, 125 + 123, 50 + 49, 0, 313 + 308);
        Check.dueInt("20 run on as ordered", 2, runOn(plant));
        // 48 and 47 follow, feeds of 120 and 117.5, energies of 300 and 295.
        due("run", plant, 125 + 123 + 120 + 118, 50 + 49 + 48 + 47, 94, 313 + 308 + 300 + 295);
    }

    private static int runOn(MembranePlant plant) {
        plant.order(3, true);
        plant.order(4, true);
        return plant.run(2);
    }

    private static void feedRoundsUpForEachTrain() {
        MembranePlant plant = new MembranePlant();
        for (int i = 0; i < 4; i++) {
            plant.addTrain(1);
        }
        plant.setRecovery(59);
        // 5 each: 8.47 of feed, 9 each; 9 * 50 / 20 = 22.5, 23 each.
        Check.dueInt("19 product", 20, plant.pass(true));
        due("four trains", plant, 36, 20, 20, 92);
    }

    private static void spilled() {
        MembranePlant plant = new MembranePlant();
        plant.addTrain(10);
        plant.pass(true);
        due("no tank", plant, 125, 50, 50, 313);
        plant.addTank(20);
        plant.addTank(10);
        plant.setDemand(1, 0, 47, 4);
        plant.pass(true);
        due("two tanks", plant, 125 + 123, 99, 50 + 19, 313 + 308);
        plant.pass(true);
        due("what was served fits", plant, 125 + 123 + 120, 147, 50 + 19 + 44, 313 + 308 + 300);
    }

    private static void balanceAfterCleanings() {
        MembranePlant plant = Plants.busy();
        plant.clean(0);
        Check.dueBool("35 cleaning begun", true, plant.isBalanced());
        Check.dueLong("33 cleaning begun", plant.spilled(), plant.spilledByBalance());
        plant.clean(1);
        plant.run(12);
        Check.dueBool("35 cleaned", true, plant.isBalanced());
        Check.dueLong("33 cleaned", plant.spilled(), plant.spilledByBalance());
        plant.addTank(2000);
        for (int i = 0; i < 40; i++) {
            plant.pass(i % 3 != 0);
        }
        Check.dueBool("35 later", true, plant.isBalanced());
        Check.dueLong("33 later", plant.spilled(), plant.spilledByBalance());
        MembranePlant small = Plants.small();
        small.pass(true);
        small.clean(0);
        small.setDemand(0, 1, 1, 15);
        small.pass(true);
        Check.dueInt("17 after a cleaning", 25, small.level(0));
        Check.dueLong("33 nothing spilled", 0, small.spilledByBalance());
    }

    private static void cost() {
        MembranePlant plant = Plants.small();
        plant.setPrice(0, 0, 99);
        plant.setPrice(1, 1, 0);
        plant.pass(true);
        Check.dueLong("34 dear", 313 * 99, plant.cost());
        plant.pass(true);
        Check.dueLong("34 free", 313 * 99, plant.cost());
        plant.pass(true);
        Check.dueLong("34 as it was", 313 * 99 + 300, plant.cost());
        // A day later the prices are the same.
        for (int i = 3; i < 48; i++) {
            plant.pass(false);
        }
        plant.pass(true);
        // 10 * 25 * 94 / 500 = 47, a feed of 117.5, 295 of energy.
        Check.dueLong("34 a day later", 313 * 99 + 300 + 295 * 99, plant.cost());
    }

    private static void servedShare() {
        MembranePlant plant = Plants.small();
        plant.addTank(10);
        plant.setDemand(0, 0, 0, 40);
        plant.setDemand(1, 0, 0, 20);
        plant.setDemand(0, 1, 1, 30);
        plant.pass(true);
        // 50 fit into the first tank, the second one is empty.
        Check.due("36 two thirds", 40f / 60f, plant.servedShare());
        plant.pass(false);
        Check.due("36 fifty of ninety", 50f / 90f, plant.servedShare());
        plant.setDemand(0, 0, 47, 0);
        plant.setDemand(1, 0, 47, 0);
        plant.pass(true);
        Check.due("36 what was demanded counts", 50f / 90f, plant.servedShare());
        MembranePlant all = Plants.small();
        all.setDemand(0, 0, 0, 7);
        all.pass(true);
        Check.due("36 all", 1f, all.servedShare());
        MembranePlant nothing = Plants.small();
        nothing.setDemand(0, 0, 0, 7);
        nothing.pass(false);
        Check.due("36 nothing", 0f, nothing.servedShare());
        MembranePlant third = new MembranePlant();
        third.addTrain(1);
        third.addTank(10);
        third.setDemand(0, 0, 0, 15);
        third.pass(true);
        Check.due("36 a third, as a float", 0.33333334f, third.servedShare());
    }

    private static void servedShareRefused() {
        Check.refused("36 new", ArithmeticException.class, MembranePlant::new, MembranePlant::servedShare);
        Check.refused("36 none demanded", ArithmeticException.class, () -> {
            MembranePlant plant = Plants.small();
            plant.pass(true);
            return plant;
        }, MembranePlant::servedShare);
        Check.refused("36 not yet", ArithmeticException.class, () -> {
            MembranePlant plant = Plants.small();
            plant.setDemand(0, 0, 47, 9);
            return plant;
        }, MembranePlant::servedShare);
    }

    private static void meanCost() {
        MembranePlant plant = Plants.small();
        plant.pass(false);
        Check.due("37 free", 0.0, plant.meanCost());
        plant.pass(true);
        Check.due("37 two", 156.5, plant.meanCost());
        plant.pass(false);
        Check.due("37 three", 313.0 / 3.0, plant.meanCost());
        Check.refused("37 none has passed", ArithmeticException.class, Plants::small, MembranePlant::meanCost);
    }
}
