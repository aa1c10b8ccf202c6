import java.util.List;
import java.util.function.Consumer;
import java.util.function.Supplier;

/** The sentences on use, time, trains and the sea. */
final class TimeSentences {
    private TimeSentences() {
    }

    static void test() {
        Sentences.test(0, "An object is used for at most 512 calls after it has been made; what later calls answer"
                + " is free.", TimeSentences::mostCalls);
        Sentences.test(0, "Its calls are those of an operator: trains and tanks are added, tables are set, half"
                + " hours pass, and all other calls read meters or ask for schedules.", TimeSentences::readingCalls);
        Sentences.test(0, "Half hours are numbered from 0; the present one, initially 0, is the one that passes"
                + " next.", TimeSentences::numbers);
        Sentences.test(0, "The slot of a half hour is the remainder of its number by 48.", TimeSentences::slots);
        Sentences.test(0, "At most 4 trains are numbered from 0.", TimeSentences::trains);
        Sentences.test(0, "A train has an area from 1 to 20, a pressure from 30 to 70, initially 50, a fouling,"
                + " initially 0, and a wear, initially 0; it is ready, or it is being cleaned and has some half hours"
                + " left.", TimeSentences::train);
        Sentences.test(0, "The sea has a salinity from 20 to 35, initially 25.", TimeSentences::salinity);
        Sentences.test(0, "The recovery is a percentage from 30 to 60, initially 40.", TimeSentences::recovery);
    }

    /** As many of 512 calls as can do so let 12 half hours pass, all of them on. */
    private static void mostCalls() {
        MembranePlant plant = new MembranePlant();
        for (int i = 0; i < 4; i++) {
            plant.addTrain(20);
            plant.setPressure(i, 70);
        }
        plant.setSalinity(20);
        plant.setRecovery(30);
        plant.setPrice(0, 46, 99);
        plant.addTank(1);
        plant.setDemand(0, 0, 47, 200);
        for (int call = 14; call <= 507; call++) {
            Check.dueInt("call " + call, 12, plant.run(12));
        }
        int passed = 494 * 12;
        long cost = 0;
        for (int i = 0; i < passed; i++) {
            int product = 20 * 50 * (100 - Math.min(90, 3 * i)) / 500;
            int feed = (int) Math.ceil(product * 100 / 30.0);
            cost += 4 * (i % 48 == 47 ? 1 : 99) * (long) Math.ceil(feed * 70 / 20.0);
        }
        Check.dueInt("call 508", passed, plant.halfHour());
        Check.dueInt("call 509", passed * 199, plant.shortOf(0));
        Check.due("call 510", (float) passed / (float) (passed * 200), plant.servedShare());
        Check.dueBool("call 511", true, plant.isBalanced());
        Check.dueLong("call 512", cost, plant.cost());
    }

    private static void readingCalls() {
        List<Consumer<MembranePlant>> calls = List.of(
                p -> p.fouling(0), p -> p.wear(0), p -> p.cleaningLeft(1), p -> p.productOf(0), p -> p.energyOf(0),
                MembranePlant::readyTrains, p -> p.demand(0, 0), p -> p.level(0), p -> p.shortOf(0),
                MembranePlant::halfHour, p -> p.bestCost(1), p -> p.bestCost(6), p -> p.bestCostByTrying(1),
                p -> p.bestCostByTrying(6), p -> p.isOnInBest(1, 0), p -> p.isOnInBest(6, 5),
                p -> p.allowedSchedules(1), p -> p.allowedSchedules(6), MembranePlant::feed, MembranePlant::product,
                MembranePlant::brine, MembranePlant::spilled, MembranePlant::spilledByBalance, MembranePlant::cost,
                MembranePlant::isBalanced, MembranePlant::servedShare, MembranePlant::meanCost);
        String untouched = View.afterUse(planned());
        String viewed = View.of(planned());
        for (int i = 0; i < calls.size(); i++) {
            MembranePlant plant = planned();
            Check.taken("call " + i, plant, calls.get(i));
            Check.due("after call " + i, untouched, View.afterUse(plant));
            MembranePlant asked = planned();
            calls.get(i).accept(asked);
            Check.due("all after call " + i, viewed, View.of(asked));
        }
    }

    /** The full plant with a smaller demand, so that schedules are allowed. */
    private static MembranePlant planned() {
        MembranePlant plant = Plants.full();
        plant.setDemand(1, 4, 20, 2);
        return plant;
    }

    private static void numbers() {
        MembranePlant plant = Plants.small();
        plant.setPrice(0, 47, 0);
        plant.setPrice(0, 0, 5);
        Check.dueInt("initially", 0, plant.halfHour());
        Check.dueInt("the present one can have an order", 1, plant.order(0, true));
        Check.dueInt("the present one passes", 50, plant.pass(true));
        Check.dueLong("its price", 5 * 313, plant.cost());
        Check.dueInt("the next one is present", 1, plant.halfHour());
        Check.dueInt("the next one passes", 49, plant.pass(true));
        Check.dueLong("no price", 5 * 313, plant.cost());
    }

    /** Slots 47, 0 and 1 differ, where the numbers go round. */
    private static MembranePlant aroundMidnight(int passed) {
        MembranePlant plant = Plants.small();
        plant.setPrice(0, 47, 0);
        plant.setPrice(47, 47, 2);
        plant.setPrice(0, 0, 3);
        plant.setDemand(0, 47, 47, 4);
        plant.setDemand(0, 0, 0, 5);
        for (int i = 0; i < passed; i++) {
            plant.pass(false);
        }
        return plant;
    }

    private static void slots() {
        MembranePlant plant = aroundMidnight(47);
        Check.dueInt("short in half hour 0 alone", 5, plant.shortOf(0));
        plant.pass(true);
        Check.dueLong("price in half hour 47", 2 * 313, plant.cost());
        Check.dueInt("level after half hour 47", 46, plant.level(0));
        plant.pass(true);
        Check.dueLong("price in half hour 48", 2 * 313 + 3 * 308, plant.cost());
        Check.dueInt("level after half hour 48", 46 + 49 - 5, plant.level(0));
        plant.pass(true);
        Check.dueLong("price in half hour 49", 2 * 313 + 3 * 308, plant.cost());
        Check.dueInt("level after half hour 49", 100, plant.level(0));
        Check.dueInt("short in half hours 0, 47, 48, 95 and 96", 23, aroundMidnight(97).shortOf(0));
        MembranePlant planned = aroundMidnight(46);
        Check.dueInt("allowed for half hour 46", 2, planned.allowedSchedules(1));
        Check.dueInt("cost up to half hour 47", 0, planned.bestCost(2));
        Check.dueBool("on in half hour 46, which is free", true, planned.isOnInBest(2, 0));
        planned.pass(false);
        Check.dueInt("cost up to half hour 48", 2 * 313, planned.bestCost(2));
        Check.dueBool("on in half hour 47, for it and 48", true, planned.isOnInBest(2, 0));
        planned.setDemand(0, 47, 47, 0);
        planned.setPrice(47, 47, 4);
        Check.dueInt("cost in half hour 48", 3 * 313, planned.bestCost(2));
        Check.dueInt("half hour 49 is not half hour 1", 2, ordered().allowedSchedules(2));
    }

    private static MembranePlant ordered() {
        MembranePlant plant = Plants.small();
        plant.order(0, true);
        plant.order(49, true);
        return plant;
    }

    private static void trains() {
        MembranePlant plant = new MembranePlant();
        plant.addTank(2000);
        for (int i = 0; i < 4; i++) {
            Check.due("train " + i + " ahead", "throws.IndexOutOfBoundsException", Check.answer(firstFree(plant, i)));
            Check.dueInt("train " + i, i, plant.addTrain(5 + i));
            Check.dueInt("ready", i + 1, plant.readyTrains());
        }
        Check.due("a fifth one", "throws.IllegalStateException", Check.answer(() -> plant.addTrain(5)));
        Check.due("train 4", "throws.IndexOutOfBoundsException", Check.answer(() -> plant.fouling(4)));
        Check.dueInt("all four run", 25 + 30 + 35 + 40, plant.pass(true));
    }

    private static Supplier<Object> firstFree(MembranePlant plant, int train) {
        return () -> plant.fouling(train);
    }

    private static void train() {
        MembranePlant plant = new MembranePlant();
        plant.addTrain(1);
        plant.addTrain(20);
        plant.addTank(20);
        Check.dueInt("least area", 1 * 25 * 100 / 500, plant.productOf(0));
        Check.dueInt("most area", 20 * 25 * 100 / 500, plant.productOf(1));
        for (int i = 0; i < 2; i++) {
            Check.dueInt("fouling, initially", 0, plant.fouling(i));
            Check.dueInt("wear, initially", 0, plant.wear(i));
            Check.dueInt("ready", 0, plant.cleaningLeft(i));
            Check.dueInt("pressure, initially", 50, plant.setPressure(i, i == 0 ? 30 : 70));
        }
        Check.dueInt("least pressure", 1, plant.productOf(0));
        Check.dueInt("most pressure", 180, plant.productOf(1));
        Check.dueInt("both are ready", 2, plant.readyTrains());
        plant.pass(true);
        plant.clean(1);
        Check.dueInt("being cleaned", 2, plant.cleaningLeft(1));
        Check.dueInt("one is ready", 1, plant.readyTrains());
        plant.addTrain(7);
        Check.dueInt("a later one's pressure", 50, plant.setPressure(2, 50));
        Check.dueInt("a later one's fouling", 0, plant.fouling(2));
        Check.dueInt("a later one is ready", 0, plant.cleaningLeft(2));
    }

    private static void salinity() {
        MembranePlant plant = Plants.small();
        Check.dueInt("product, initially", 10 * 25 * 100 / 500, plant.productOf(0));
        Check.dueInt("initially", 25, plant.setSalinity(20));
        Check.dueInt("product at the least", 60, plant.productOf(0));
        Check.dueInt("least", 20, plant.setSalinity(35));
        Check.dueInt("product at the most", 30, plant.productOf(0));
        Check.dueInt("most", 35, plant.setSalinity(35));
    }

    private static void recovery() {
        MembranePlant plant = Plants.small();
        // 50 of product: feeds of 125, 167 and 84.
        Check.dueInt("energy, initially", 313, plant.energyOf(0));
        Check.dueInt("initially", 40, plant.setRecovery(30));
        Check.dueInt("energy at the least", 418, plant.energyOf(0));
        Check.dueInt("least", 30, plant.setRecovery(60));
        Check.dueInt("energy at the most", 210, plant.energyOf(0));
        Check.dueInt("most", 60, plant.setRecovery(60));
    }
}
