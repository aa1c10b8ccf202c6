import java.util.NoSuchElementException;

/** Promises 25 to 28: schedules. */
public final class SchedulesTest {
    private static final int[] WRONG = {0, 7, -1, Integer.MIN_VALUE, Integer.MAX_VALUE};

    private SchedulesTest() {
    }

    public static void main(String[] args) {
        costs();
        ties();
        shortLater();
        everyTankCounts();
        ordersCount();
        cleaningEnds();
        foulingCosts();
        slotsGoRound();
        nothingChanges();
        wrongNumbers();
        noneAllowed();
        Check.end();
    }

    /** Answers the schedule in the manner of "101", first half hour first. */
    private static String best(MembranePlant plant, int halfHours) {
        StringBuilder text = new StringBuilder();
        for (int i = 0; i < halfHours; i++) {
            text.append(plant.isOnInBest(halfHours, i) ? '1' : '0');
        }
        return text.toString();
    }

    private static void due(String name, MembranePlant plant, int halfHours, int cost, String best, int allowed) {
        Check.dueInt("25 " + name, cost, plant.bestCost(halfHours));
        Check.dueInt("26 " + name, cost, plant.bestCostByTrying(halfHours));
        Check.due("27 " + name, best, best(plant, halfHours));
        Check.dueInt("28 " + name, allowed, plant.allowedSchedules(halfHours));
    }

    private static void costs() {
        MembranePlant plant = Plants.small();
        due("no demand", plant, 6, 0, "000000", 64);
        due("no demand, one", plant, 1, 0, "0", 2);
        plant.setPrice(0, 0, 9);
        plant.setPrice(1, 1, 2);
        plant.setPrice(2, 2, 5);
        plant.setDemand(0, 2, 2, 30);
        due("cheapest of three", plant, 3, 626, "010", 7);
        plant.setPrice(2, 2, 1);
        due("cheapest is the last", plant, 3, 313, "001", 7);
        plant.setPrice(0, 0, 0);
        due("free", plant, 3, 0, "100", 7);
        plant.setDemand(0, 2, 2, 99);
        // Two of three half hours give 50 and 49.
        due("two are needed", plant, 3, 308, "101", 4);
        plant.setDemand(0, 2, 2, 100);
        due("the tank holds 100", plant, 3, 308 * 2 + 300, "111", 1);
    }

    private static void ties() {
        MembranePlant plant = Plants.small();
        plant.setPrice(0, 47, 0);
        due("all free", plant, 6, 0, "000000", 64);
        plant.setDemand(0, 1, 1, 30);
        due("last one that does", plant, 2, 0, "01", 3);
        due("later ones off", plant, 4, 0, "0100", 12);
        plant.setPrice(0, 47, 3);
        due("as dear", plant, 2, 939, "01", 3);
        plant.setDemand(0, 3, 3, 60);
        // 50 and 49 of product are due by half hour 3, the first of them by half hour 1.
        due("two as dear", plant, 4, 939 + 924, "0101", 10);
    }

    private static void shortLater() {
        MembranePlant plant = Plants.small();
        plant.setDemand(0, 0, 0, 50);
        due("exactly enough", plant, 1, 313, "1", 1);
        due("exactly enough, then nothing", plant, 2, 313, "10", 2);
        plant.setDemand(0, 0, 0, 51);
        Check.refused("25 one is missing", NoSuchElementException.class, () -> {
            MembranePlant missing = Plants.small();
            missing.setDemand(0, 0, 0, 51);
            return missing;
        }, p -> p.bestCost(1));
        Check.dueInt("28 one is missing", 0, plant.allowedSchedules(1));
        plant.setDemand(0, 0, 0, 0);
        plant.setDemand(0, 5, 5, 1);
        due("not looked at", plant, 5, 0, "00000", 32);
        due("looked at", plant, 6, 313, "000001", 63);
    }

    private static void everyTankCounts() {
        MembranePlant plant = Plants.small();
        plant.addTank(10);
        plant.addTank(10);
        plant.setDemand(2, 2, 2, 10);
        // 100 for the first tank, 10 for the second: the third has water from the third half hour on.
        plant.setDemand(0, 1, 1, 3);
        due("third tank", plant, 3, 313 + 308 + 300, "111", 1);
        plant.setDemand(1, 0, 0, 1);
        Check.dueInt("28 second tank is short at once", 0, plant.allowedSchedules(1));
    }

    private static void ordersCount() {
        MembranePlant plant = Plants.small();
        plant.setDemand(0, 2, 2, 10);
        plant.order(1, true);
        plant.order(2, false);
        plant.order(40, true);
        due("on in the middle", plant, 4, 313, "0100", 4);
        plant.order(0, true);
        due("on at first", plant, 4, 621, "1100", 2);
        plant.order(1, false);
        plant.order(3, false);
        due("all ordered", plant, 4, 313, "1000", 1);
        due("all ordered, then free", plant, 6, 313, "100000", 4);
        plant.order(0, false);
        Check.dueInt("28 ordered off", 0, plant.allowedSchedules(4));
        Check.dueInt("28 ordered off, before it is short", 1, plant.allowedSchedules(2));
        plant.takeBack(0);
        due("taken back", plant, 4, 313, "1000", 1);
    }

    private static void cleaningEnds() {
        MembranePlant plant = Plants.small();
        plant.pass(true);
        plant.pass(true);
        plant.setDemand(0, 4, 4, 100);
        // 99 less 10 for the cleaning: 11 are missing in half hour 4, when the train runs again and
        // gives 10 * 25 * 99 / 500, 49.
        plant.clean(0);
        due("on after the cleaning", plant, 3, 308, "001", 4);
        plant.setDemand(0, 3, 3, 40);
        Check.dueInt("28 being cleaned", 0, plant.allowedSchedules(3));
        plant.setDemand(0, 4, 4, 98);
        due("after the cleaning, enough", plant, 3, 308, "001", 4);
        plant.setDemand(0, 4, 4, 49);
        due("none is needed", plant, 3, 0, "000", 8);
    }

    private static void foulingCosts() {
        MembranePlant plant = new MembranePlant();
        plant.addTrain(20);
        plant.setPressure(0, 56);
        plant.addTank(2000);
        plant.setDemand(0, 0, 47, 100);
        // Products 124, 120, 116 and 112, feeds 310, 300, 290 and 280, energies 868, 840, 812 and 784.
        due("all are needed", plant, 4, 868 + 840 + 812 + 784, "1111", 1);
        plant.pass(true);
        plant.pass(true);
        plant.pass(true);
        plant.pass(true);
        // 72 are left; 109 and 105 follow.
        plant.setDemand(0, 5, 5, 81);
        due("first or both", plant, 2, 765, "10", 2);
    }

    private static void slotsGoRound() {
        MembranePlant plant = Plants.small();
        for (int i = 0; i < 46; i++) {
            plant.pass(false);
        }
        plant.setDemand(0, 0, 0, 20);
        plant.setPrice(46, 46, 7);
        plant.setPrice(47, 47, 4);
        plant.setPrice(0, 0, 6);
        due("past midnight", plant, 3, 4 * 313, "010", 7);
        plant.order(48, true);
        due("ordered past midnight", plant, 3, 6 * 313, "001", 4);
        Check.dueInt("20 past midnight", 1, plant.run(3));
        Check.dueLong("20 cost past midnight", 6 * 313, plant.cost());
        Check.dueInt("18 nothing short past midnight", 0, plant.shortOf(0));
    }

    private static void nothingChanges() {
        for (int i = 1; i <= 6; i++) {
            int halfHours = i;
            MembranePlant asked = Plants.full();
            String before = View.of(Plants.full());
            Check.answer(() -> asked.bestCost(halfHours));
            Check.answer(() -> asked.bestCostByTrying(halfHours));
            Check.answer(() -> asked.isOnInBest(halfHours, halfHours - 1));
            Check.answer(() -> asked.allowedSchedules(halfHours));
            Check.due("25 to 28 change nothing, " + halfHours, before, View.of(asked));
        }
    }

    private static void wrongNumbers() {
        Class<IllegalArgumentException> kind = IllegalArgumentException.class;
        for (int halfHours : WRONG) {
            Check.refused("25 for " + halfHours, kind, Plants::busy, p -> p.bestCost(halfHours));
            Check.refused("26 for " + halfHours, kind, Plants::busy, p -> p.bestCostByTrying(halfHours));
            Check.refused("27 for " + halfHours, kind, Plants::busy, p -> p.isOnInBest(halfHours, 0));
            Check.refused("27 for " + halfHours + ", index too", kind, Plants::busy,
                    p -> p.isOnInBest(halfHours, 9));
            Check.refused("27 for " + halfHours + ", negative index", kind, Plants::busy,
                    p -> p.isOnInBest(halfHours, -1));
            Check.refused("28 for " + halfHours, kind, Plants::busy, p -> p.allowedSchedules(halfHours));
        }
        int[][] indexes = {{1, 1}, {3, 3}, {3, 4}, {6, 6}, {3, -1},
            {3, Integer.MIN_VALUE}, {3, Integer.MAX_VALUE}};
        for (int[] row : indexes) {
            Check.refused("27 index " + row[1] + " of " + row[0], IndexOutOfBoundsException.class, Plants::busy,
                    p -> p.isOnInBest(row[0], row[1]));
            Check.refused("27 index " + row[1] + " of " + row[0] + ", none allowed",
                    IndexOutOfBoundsException.class, Plants::thirsty, p -> p.isOnInBest(row[0], row[1]));
        }
    }

    private static void noneAllowed() {
        Class<NoSuchElementException> kind = NoSuchElementException.class;
        for (int i = 1; i <= 6; i++) {
            int halfHours = i;
            Check.refused("25 none for " + i, kind, Plants::thirsty, p -> p.bestCost(halfHours));
            Check.refused("26 none for " + i, kind, Plants::thirsty, p -> p.bestCostByTrying(halfHours));
            Check.refused("27 none for " + i, kind, Plants::thirsty, p -> p.isOnInBest(halfHours, 0));
            Check.dueInt("28 none for " + i, 0, Plants.thirsty().allowedSchedules(halfHours));
        }
        for (int halfHours : WRONG) {
            Check.refused("25 none, for " + halfHours, IllegalArgumentException.class, Plants::thirsty,
                    p -> p.bestCost(halfHours));
            Check.refused("26 none, for " + halfHours, IllegalArgumentException.class, Plants::thirsty,
                    p -> p.bestCostByTrying(halfHours));
        }
    }
}
