import java.util.Random;
import java.util.function.Supplier;

/** Runs of 512 calls, always the same ones, answered by the program and by the model. */
public final class RandomRunsTest {
    private static final int RUNS = 400;
    private static final int CALLS = 512;
    private static final int[] FAR = {Integer.MIN_VALUE, -1, Integer.MAX_VALUE};

    private final Random random;
    private final MembranePlant plant = new MembranePlant();
    private final PlantModel model = new PlantModel();
    private final String run;
    /** Some plants have far more water than is asked for, some far less. */
    private final int mostDemand;
    private final int mostCapacity;

    private RandomRunsTest(int seed) {
        random = new Random(seed);
        run = "run " + seed;
        mostDemand = 5 + random.nextInt(196);
        mostCapacity = 20 + random.nextInt(1981);
    }

    public static void main(String[] args) {
        for (int i = 0; i < RUNS; i++) {
            new RandomRunsTest(i).calls();
        }
        Check.end();
    }

    private void calls() {
        for (int i = 0; i < CALLS; i++) {
            int kind = random.nextInt(100);
            if (kind < 22) {
                setUp(kind);
            } else if (kind < 55) {
                halfHours(kind);
            } else if (kind < 75) {
                schedules(kind);
            } else {
                read(random.nextInt(20));
            }
        }
    }

    private void same(String call, Supplier<Object> due, Supplier<Object> got) {
        Check.due(run + " " + call, Check.answer(due), Check.answer(got));
    }

    /** From least to most, now and then just outside, seldom far outside. */
    private int number(int least, int most) {
        int kind = random.nextInt(40);
        if (kind == 0) {
            return random.nextBoolean() ? least - 1 : most + 1;
        }
        if (kind == 1) {
            return FAR[random.nextInt(FAR.length)];
        }
        if (kind < 6) {
            return random.nextBoolean() ? least : most;
        }
        return least + random.nextInt(most - least + 1);
    }

    private void setUp(int kind) {
        int train = number(0, 3);
        int tank = number(0, 2);
        int first = number(0, 47);
        int last = random.nextInt(8) == 0 ? number(0, 47) : Math.min(47, first + random.nextInt(12));
        if (kind < 3) {
            int area = number(1, 20);
            same("addTrain " + area, () -> model.addTrain(area), () -> plant.addTrain(area));
        } else if (kind < 6) {
            int capacity = random.nextInt(9) == 0 ? number(1, 2000) : number(1, mostCapacity);
            same("addTank " + capacity, () -> model.addTank(capacity), () -> plant.addTank(capacity));
        } else if (kind < 10) {
            int value = number(30, 70);
            same("setPressure", () -> model.setPressure(train, value), () -> plant.setPressure(train, value));
        } else if (kind < 11) {
            int value = number(20, 35);
            same("setSalinity", () -> model.setSalinity(value), () -> plant.setSalinity(value));
        } else if (kind < 12) {
            int value = number(30, 60);
            same("setRecovery", () -> model.setRecovery(value), () -> plant.setRecovery(value));
        } else if (kind < 16) {
            int value = number(0, random.nextInt(6) == 0 ? 200 : mostDemand);
            same("setDemand", () -> model.setDemand(tank, first, last, value),
                    () -> plant.setDemand(tank, first, last, value));
        } else if (kind < 19) {
            int value = number(0, 99);
            same("setPrice", () -> model.setPrice(first, last, value), () -> plant.setPrice(first, last, value));
        } else {
            int value = number(1, 6);
            same("setHorizon", () -> model.setHorizon(value), () -> plant.setHorizon(value));
        }
    }

    private void halfHours(int kind) {
        boolean isOn = random.nextBoolean();
        int near = model.halfHour() + random.nextInt(9) - 1;
        int halfHour = random.nextInt(20) == 0 ? number(0, 9) : near;
        if (kind < 32) {
            same("pass " + isOn, () -> model.pass(isOn), () -> plant.pass(isOn));
        } else if (kind < 37) {
            int value = number(1, random.nextBoolean() ? 12 : 3);
            same("run " + value, () -> model.run(value), () -> plant.run(value));
        } else if (kind < 43) {
            int train = number(0, 3);
            same("clean " + train, () -> model.clean(train), () -> plant.clean(train));
        } else if (kind < 49) {
            same("order " + halfHour, () -> model.order(halfHour, isOn), () -> plant.order(halfHour, isOn));
        } else {
            same("takeBack " + halfHour, () -> model.takeBack(halfHour), () -> plant.takeBack(halfHour));
        }
    }

    private void schedules(int kind) {
        int value = number(1, 6);
        int index = number(0, 5);
        if (kind < 60) {
            same("bestCost " + value, () -> model.bestCost(value), () -> plant.bestCost(value));
        } else if (kind < 64) {
            same("bestCostByTrying " + value, () -> model.bestCostByTrying(value),
                    () -> plant.bestCostByTrying(value));
        } else if (kind < 71) {
            same("isOnInBest " + value + " " + index, () -> model.isOnInBest(value, index),
                    () -> plant.isOnInBest(value, index));
        } else {
            same("allowedSchedules " + value, () -> model.allowedSchedules(value),
                    () -> plant.allowedSchedules(value));
        }
    }

    private void read(int kind) {
        int train = number(0, 3);
        int tank = number(0, 2);
        int slot = number(0, 47);
        switch (kind) {
            case 0 -> same("fouling", () -> model.fouling(train), () -> plant.fouling(train));
            case 1 -> same("wear", () -> model.wear(train), () -> plant.wear(train));
            case 2 -> same("cleaningLeft", () -> model.cleaningLeft(train), () -> plant.cleaningLeft(train));
            case 3 -> same("productOf", () -> model.productOf(train), () -> plant.productOf(train));
            case 4 -> same("energyOf", () -> model.energyOf(train), () -> plant.energyOf(train));
            case 5 -> same("readyTrains", model::readyTrains, plant::readyTrains);
            case 6 -> same("demand", () -> model.demand(tank, slot), () -> plant.demand(tank, slot));
            case 7, 8 -> same("level", () -> model.level(tank), () -> plant.level(tank));
            case 9 -> same("shortOf", () -> model.shortOf(tank), () -> plant.shortOf(tank));
            case 10 -> same("halfHour", model::halfHour, plant::halfHour);
            case 11 -> same("feed", model::feed, plant::feed);
            case 12 -> same("product", model::product, plant::product);
            case 13 -> same("brine", model::brine, plant::brine);
            case 14 -> same("spilled", model::spilled, plant::spilled);
            case 15 -> same("spilledByBalance", model::spilledByBalance, plant::spilledByBalance);
            case 16 -> same("cost", model::cost, plant::cost);
            case 17 -> same("isBalanced", model::isBalanced, plant::isBalanced);
            case 18 -> same("servedShare", model::servedShare, plant::servedShare);
            default -> same("meanCost", model::meanCost, plant::meanCost);
        }
    }
}
