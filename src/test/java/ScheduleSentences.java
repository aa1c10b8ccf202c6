import java.util.Random;
import java.util.function.Supplier;
import java.util.function.ToIntBiFunction;

/** The sentences on schedules, and promises 25 to 28, line by line. */
final class ScheduleSentences {
    private static final String RANGE = "- `halfHours`: for how many half hours, 1 to 6";
    private static final String OUTSIDE = "Throws `IllegalArgumentException` if the number is out of range";
    private static final String NONE = "Throws `NoSuchElementException` if no schedule is allowed";

    private ScheduleSentences() {
    }

    static void test() {
        terms();
        bestCost();
        bestCostByTrying();
        isOnInBest();
        allowedSchedules();
    }

    private static void terms() {
        Sentences.test(0, "A schedule for some next half hours, 1 to 6 of them from the present one on, tells for each"
                + " one whether it is on or off.", ScheduleSentences::eachHalfHour);
        Sentences.test(0, "It is allowed if it tells each half hour with an order as ordered, and if nothing would be"
                + " short in any of these half hours, when they pass like this with nothing else done.",
                ScheduleSentences::allowed);
        Sentences.test(0, "Its cost is the sum of their costs.", ScheduleSentences::costs);
        Sentences.test(0, "The best schedule is the allowed one with the least cost; of several, the one that is off in"
                + " the first half hour in which they differ.", ScheduleSentences::best);
    }

    /** The best schedule in the manner of "101", first half hour first. */
    private static String told(MembranePlant plant, int halfHours) {
        StringBuilder text = new StringBuilder();
        for (int i = 0; i < halfHours; i++) {
            text.append(plant.isOnInBest(halfHours, i) ? '1' : '0');
        }
        return text.toString();
    }

    private static void due(String name, MembranePlant plant, String best, int cost, int allowed) {
        int halfHours = best.length();
        Check.dueInt(name + ", allowed", allowed, plant.allowedSchedules(halfHours));
        Check.due(name + ", best", best, told(plant, halfHours));
        Check.dueInt(name + ", cost", cost, plant.bestCost(halfHours));
        Check.dueInt(name + ", cost by trying", cost, plant.bestCostByTrying(halfHours));
    }

    private static void eachHalfHour() {
        for (int length = 1; length <= 6; length++) {
            for (int on = 0; on < length; on++) {
                // Nothing is demanded: it is on by its order alone.
                MembranePlant plant = Plants.withTrains(1);
                plant.order(1 + on, true);
                StringBuilder best = new StringBuilder("000000");
                best.setCharAt(on, '1');
                due("on in " + on + " of " + length, plant, best.substring(0, length), 308, 1 << (length - 1));
            }
            due("all off, " + length, Plants.withTrains(1), "000000".substring(0, length), 0, 1 << length);
        }
        MembranePlant on = Plants.small();
        on.setDemand(0, 0, 4, 47);
        on.setDemand(0, 5, 5, 45);
        // Products 50, 49, 48, 47, 46 and 45; 3, 5, 6, 6 and 5 are left, then 5.
        due("all on", on, "111111", 313 + 308 + 300 + 295 + 288 + 283, 1);
    }

    private static void allowed() {
        ordersCount();
        shortCounts();
        nothingElse();
        for (int seed = 0; seed < 60; seed++) {
            for (int halfHours = 1; halfHours <= 6; halfHours++) {
                asPassed(seed, halfHours);
            }
        }
    }

    private static void ordersCount() {
        for (int length = 1; length <= 6; length++) {
            MembranePlant beyond = Plants.small();
            beyond.order(length, true);
            due("ordered just beyond " + length, beyond, "000000".substring(0, length), 0, 1 << length);
            MembranePlant last = Plants.small();
            last.order(length - 1, true);
            due("ordered in the last of " + length, last, "000001".substring(6 - length), 313, 1 << (length - 1));
            MembranePlant off = Plants.small();
            off.setDemand(0, length - 1, length - 1, 1);
            off.order(length - 1, false);
            Check.dueInt("ordered off in the last of " + length, (1 << (length - 1)) - 1, off.allowedSchedules(length));
        }
        MembranePlant six = Plants.small();
        for (int i = 0; i < 6; i++) {
            six.order(i, i % 2 == 1);
        }
        due("six orders", six, "010101", 313 + 308 + 300, 1);
        six.setDemand(0, 5, 5, 101);
        Check.dueInt("as ordered, but short", 0, six.allowedSchedules(6));
    }

    private static void shortCounts() {
        for (int length = 1; length <= 6; length++) {
            Check.dueInt("short in the last of " + length, 0, Plants.shortAt(length - 1).allowedSchedules(length));
            Check.dueInt("short just beyond " + length, 1 << length, Plants.shortAt(length).allowedSchedules(length));
        }
        MembranePlant exact = Plants.small();
        exact.setDemand(0, 0, 0, 50);
        due("exactly enough", exact, "1", 313, 1);
        exact.setDemand(0, 0, 0, 51);
        Check.dueInt("one is missing", 0, exact.allowedSchedules(1));
        MembranePlant before = Plants.small();
        before.setDemand(0, 0, 0, 200);
        before.pass(false);
        due("short before", before, "000000", 0, 64);
        MembranePlant third = Plants.withTanks(3);
        // 49 are enough to fill the tanks 1 and 2, which have 20 and 0 of 31 and 32.
        third.setDemand(2, 1, 1, 33);
        Check.dueInt("the last tank is short by one", 0, third.allowedSchedules(1));
        third.setDemand(2, 1, 1, 32);
        due("the last tank has just enough", third, "1", 308, 1);
        third.setDemand(2, 1, 1, 0);
        third.setDemand(1, 1, 1, 20);
        due("the tank between has just enough", third, "0", 0, 2);
        third.setDemand(1, 1, 1, 21);
        due("the tank between needs one more", third, "1", 308, 1);
    }

    private static void nothingElse() {
        MembranePlant plant = Plants.cleaned(0);
        plant.setDemand(0, 20, 23, 35);
        // 90 in the tank, and the train is ready again in the last of four half hours.
        due("a cleaning goes on", plant, "00", 0, 4);
        Check.dueInt("without it none has water", 0, plant.allowedSchedules(3));
        plant.setDemand(0, 20, 23, 30);
        // Fouling 5: 10 * 20 * 95 / 500 = 38, a feed of 95, 213.75 of energy.
        due("on when it is cleaned", plant, "0001", 214, 8);
        plant.setHorizon(1);
        due("whatever the horizon", plant, "0001", 214, 8);
    }

    private static void costs() {
        MembranePlant plant = Plants.small();
        plant.setDemand(0, 0, 0, 50);
        plant.setDemand(0, 1, 1, 49);
        plant.setDemand(0, 2, 2, 48);
        plant.setPrice(0, 0, 99);
        plant.setPrice(1, 1, 0);
        plant.setPrice(2, 2, 2);
        plant.setPrice(3, 47, 50);
        due("one", plant, "1", 313 * 99, 1);
        due("two", plant, "11", 313 * 99, 1);
        due("three", plant, "111", 313 * 99 + 300 * 2, 1);
        due("six", plant, "111000", 313 * 99 + 300 * 2, 8);
        plant.pass(true);
        plant.pass(true);
        due("what has passed does not count", plant, "1", 600, 1);
    }

    private static void best() {
        MembranePlant plant = Plants.small();
        plant.setPrice(0, 47, 0);
        due("all are free", plant, "000000", 0, 64);
        plant.setDemand(0, 5, 5, 1);
        due("free, one is needed", plant, "000001", 0, 63);
        plant.setDemand(0, 2, 2, 1);
        due("free, one is needed earlier", plant, "001000", 0, 56);
        plant.setDemand(0, 2, 2, 51);
        due("free, two are needed", plant, "011000", 0, 32);
        plant.setPrice(0, 47, 9);
        due("as dear", plant, "011000", 621 * 9, 32);
        plant.setPrice(0, 0, 8);
        due("one is cheaper", plant, "101000", 313 * 8 + 308 * 9, 32);
        plant.setPrice(1, 1, 7);
        due("two are cheaper", plant, "110000", 313 * 8 + 308 * 7, 32);
        plant.order(1, false);
        due("the least is not allowed", plant, "101000", 313 * 8 + 308 * 9, 8);
        MembranePlant last = Plants.small();
        last.setDemand(0, 1, 1, 1);
        last.setPrice(0, 0, 2);
        last.setPrice(1, 1, 2);
        due("they differ at once", last, "01", 626, 3);
        last.setPrice(1, 1, 3);
        due("off at first costs more", last, "10", 626, 3);
    }

    /** A plant that differs with its number, at a half hour from 40 to 49. */
    private static MembranePlant various(int seed) {
        // Small numbers that follow each other would begin with the same choices.
        Random random = new Random(seed * 1_000_003L);
        MembranePlant plant = new MembranePlant();
        int trains = 1 + random.nextInt(4);
        for (int i = 0; i < trains; i++) {
            plant.addTrain(1 + random.nextInt(12));
            plant.setPressure(i, 30 + random.nextInt(41));
        }
        int passed = 40 + random.nextInt(10);
        for (int i = 0; i < 2; i++) {
            plant.addTank(30 + random.nextInt(70 * trains));
            for (int slot = 0; slot < 48; slot++) {
                int wanted = random.nextInt(2 + i) == 0 ? random.nextInt(5 + 16 * trains) : 0;
                plant.setDemand(i, slot, slot, wanted);
            }
        }
        for (int slot = 0; slot < 48; slot++) {
            plant.setPrice(slot, slot, random.nextInt(4));
        }
        for (int i = 0; i < passed; i++) {
            plant.pass(i % 2 == 0 || i >= passed - 2);
        }
        Check.answer(() -> plant.clean(random.nextInt(trains)));
        return plant;
    }

    /** Compares the answers with what a plant of its own tells for each schedule when it passes. */
    private static void asPassed(int seed, int halfHours) {
        int ordered = seed % 3 == 0 ? seed % 7 : -1;
        boolean isOrderedOn = seed % 2 == 0;
        MembranePlant plant = various(seed);
        if (ordered >= 0) {
            plant.order(plant.halfHour() + ordered, isOrderedOn);
        }
        int allowed = 0;
        long least = Long.MAX_VALUE;
        String best = "none";
        for (int i = 0; i < 1 << halfHours; i++) {
            String schedule = Integer.toBinaryString(i + (1 << halfHours)).substring(1);
            boolean isAsOrdered = ordered < 0 || ordered >= halfHours
                    || (schedule.charAt(ordered) == '1') == isOrderedOn;
            long cost = isAsOrdered ? passed(() -> various(seed), schedule) : -1;
            allowed += cost >= 0 ? 1 : 0;
            if (cost >= 0 && cost < least) {
                least = cost;
                best = schedule;
            }
        }
        String name = "plant " + seed + ", " + halfHours + " half hours, ";
        Check.dueInt(name + "allowed", allowed, plant.allowedSchedules(halfHours));
        String due = allowed == 0 ? "throws.NoSuchElementException" : String.valueOf(least);
        Check.due(name + "cost", due, Check.answer(() -> plant.bestCost(halfHours)));
        Check.due(name + "cost by trying", due, Check.answer(() -> plant.bestCostByTrying(halfHours)));
        Check.due(name + "best", allowed == 0 ? due : best, Check.answer(() -> told(plant, halfHours)));
    }

    /** The cost of the half hours, or -1 if something was short. */
    private static long passed(Supplier<MembranePlant> recipe, String schedule) {
        MembranePlant plant = recipe.get();
        long before = plant.cost();
        int missing = plant.shortOf(0) + plant.shortOf(1);
        for (int i = 0; i < schedule.length(); i++) {
            plant.pass(schedule.charAt(i) == '1');
        }
        return plant.shortOf(0) + plant.shortOf(1) == missing ? plant.cost() - before : -1;
    }

    private static void bestCost() {
        Sentences.test(25, "Returns the cost of the best schedule, found half hour by half hour, where beginnings that"
                + " cost too much already are given up.", ScheduleSentences::beginnings);
        Sentences.test(25, RANGE, () -> seesSoMany((plant, halfHours) -> plant.bestCost(halfHours)));
        Sentences.test(25, OUTSIDE, () -> {
            Edges.outside(1, 6, Plants::busy, (p, halfHours) -> p.bestCost(halfHours));
            Edges.outside(1, 6, Plants::thirsty, (p, halfHours) -> p.bestCost(halfHours));
        });
        Sentences.test(25, NONE, () -> Edges.noneAllowed((p, halfHours) -> p.bestCost(halfHours)));
    }

    /** Whichever half hour is the cheapest: those tried ahead of it and after it cost as much or more. */
    private static void beginnings() {
        for (int cheapest = 0; cheapest < 6; cheapest++) {
            MembranePlant plant = Plants.small();
            plant.setDemand(0, 5, 5, 1);
            plant.setPrice(0, 5, 3);
            plant.setPrice(cheapest, cheapest, 2);
            Check.dueInt("cheapest at " + cheapest, 626, plant.bestCost(6));
            plant.setPrice(5, 5, 2);
            Check.dueInt("as cheap at " + cheapest + " and the end", 626, plant.bestCost(6));
            plant.setPrice(cheapest, cheapest, 0);
            Check.dueInt("free at " + cheapest, 0, plant.bestCost(6));
            plant.setPrice(0, 5, 99);
            Check.dueInt("dear", 99 * 313, plant.bestCost(6));
        }
        Check.dueInt("on at first for one less", 4 * 33 + 25, costsByOne(4, 5).bestCost(3));
        Check.dueInt("on at first for one more", 33 + 30 * 25, costsByOne(23, 30).bestCost(3));
        MembranePlant most = new MembranePlant();
        most.setSalinity(20);
        most.setRecovery(30);
        most.setPrice(0, 47, 99);
        for (int i = 0; i < 4; i++) {
            most.addTrain(20);
            most.setPressure(i, 70);
        }
        for (int i = 0; i < 6; i++) {
            most.order(i, true);
        }
        // Products 200, 194 and so on down to 170, feeds 667, 647, 627, 607, 587 and 567.
        int energy = 2335 + 2265 + 2195 + 2125 + 2055 + 1985;
        Check.dueInt("as much as six half hours can cost", 4 * 99 * energy, most.bestCost(6));
        Check.dueInt("as much, by trying", 4 * 99 * energy, most.bestCostByTrying(6));
    }

    /** Two of three half hours must be on, the first of them for an energy of 33, the second for 25. */
    private static MembranePlant costsByOne(int firstPrice, int lastPrice) {
        MembranePlant plant = new MembranePlant();
        plant.addTrain(1);
        plant.addTank(100);
        plant.setDemand(0, 2, 2, 9);
        plant.setPrice(0, 0, firstPrice);
        plant.setPrice(2, 2, lastPrice);
        return plant;
    }

    /** Asked for so many half hours, the demand in the last one of them counts, and none that comes later. */
    private static void seesSoMany(ToIntBiFunction<MembranePlant, Integer> call) {
        for (int due = 0; due <= 6; due++) {
            MembranePlant plant = Plants.small();
            plant.setDemand(0, due, due, 1);
            for (int i = 1; i <= 6; i++) {
                Check.dueInt("due at " + due + " of " + i, due < i ? 313 : 0, call.applyAsInt(plant, i));
            }
        }
    }

    private static void bestCostByTrying() {
        Sentences.test(26, "Returns the same cost, found by trying all schedules.", () -> {
            for (int seed = 100; seed < 200; seed++) {
                MembranePlant plant = various(seed);
                for (int i = 1; i <= 6; i++) {
                    int halfHours = i;
                    Check.due("plant " + seed + " for " + i, Check.answer(() -> plant.bestCost(halfHours)),
                            Check.answer(() -> plant.bestCostByTrying(halfHours)));
                }
            }
        });
        Sentences.test(26, RANGE, () -> seesSoMany((plant, halfHours) -> plant.bestCostByTrying(halfHours)));
        Sentences.test(26, OUTSIDE, () -> {
            Edges.outside(1, 6, Plants::busy, (p, halfHours) -> p.bestCostByTrying(halfHours));
            Edges.outside(1, 6, Plants::thirsty, (p, halfHours) -> p.bestCostByTrying(halfHours));
        });
        Sentences.test(26, NONE, () -> Edges.noneAllowed((p, halfHours) -> p.bestCostByTrying(halfHours)));
    }

    private static void isOnInBest() {
        Sentences.test(27, "Returns whether a half hour is on in the best schedule.", () -> {
            MembranePlant plant = Plants.small();
            plant.setDemand(0, 4, 4, 60);
            plant.setPrice(1, 1, 0);
            // The half hour 1 is free, and 4 is the last one that is as cheap as the others.
            Check.due("for six", "010010", told(plant, 6));
            Check.due("for five", "01001", told(plant, 5));
            Check.due("for four", "0000", told(plant, 4));
        });
        Sentences.test(27, RANGE, () -> seesSoMany((plant, halfHours) ->
                told(plant, halfHours).indexOf('1') >= 0 ? 313 : 0));
        Sentences.test(27, "- `index`: the index of the half hour in the schedule, 0 for the present one", () -> {
            for (int i = 0; i < 6; i++) {
                MembranePlant plant = Plants.withTrains(1);
                plant.order(1 + i, true);
                for (int index = 0; index < 6; index++) {
                    Check.dueBool("on at " + i + ", index " + index, i == index, plant.isOnInBest(6, index));
                }
            }
        });
        Sentences.test(27, OUTSIDE, () -> {
            int[] indexes = {0, -1, 6, 7};
            for (int index : indexes) {
                Edges.outside(1, 6, Plants::busy, (p, halfHours) -> p.isOnInBest(halfHours, index));
                Edges.outside(1, 6, Plants::thirsty, (p, halfHours) -> p.isOnInBest(halfHours, index));
            }
        });
        Sentences.test(27, "Throws `IndexOutOfBoundsException` if the schedule has no such half hour",
                ScheduleSentences::noSuchHalfHour);
        Sentences.test(27, NONE, () -> {
            Edges.noneAllowed((p, halfHours) -> p.isOnInBest(halfHours, 0));
            Edges.noneAllowed((p, halfHours) -> p.isOnInBest(halfHours, halfHours - 1));
        });
    }

    private static void noSuchHalfHour() {
        for (int i = 1; i <= 6; i++) {
            int halfHours = i;
            Edges.taken(0, i - 1, Plants::small, (p, index) -> p.isOnInBest(halfHours, index));
            int[] indexes = {-1, i, i + 1, 7, Integer.MIN_VALUE, Integer.MAX_VALUE};
            for (int index : indexes) {
                Check.refused("index " + index + " of " + i, IndexOutOfBoundsException.class, Plants::small,
                        p -> p.isOnInBest(halfHours, index));
                Check.refused("index " + index + " of " + i + ", none allowed", IndexOutOfBoundsException.class,
                        Plants::thirsty, p -> p.isOnInBest(halfHours, index));
            }
        }
    }

    private static void allowedSchedules() {
        Sentences.test(28, "Returns the number of schedules that are allowed.", () -> {
            for (int i = 1; i <= 6; i++) {
                MembranePlant plant = Plants.small();
                Check.dueInt("all for " + i, 1 << i, plant.allowedSchedules(i));
                plant.setDemand(0, 0, 0, 1);
                Check.dueInt("on at first for " + i, 1 << (i - 1), plant.allowedSchedules(i));
                plant.order(0, false);
                Check.dueInt("none for " + i, 0, plant.allowedSchedules(i));
            }
        });
        Sentences.test(28, RANGE, () -> {
            for (int due = 0; due <= 6; due++) {
                MembranePlant plant = Plants.small();
                plant.setDemand(0, due, due, 1);
                for (int i = 1; i <= 6; i++) {
                    int without = due < i ? 1 << (i - 1 - due) : 0;
                    Check.dueInt("due at " + due + " of " + i, (1 << i) - without, plant.allowedSchedules(i));
                }
            }
        });
        Sentences.test(28, OUTSIDE, () -> {
            Edges.outside(1, 6, Plants::busy, (p, halfHours) -> p.allowedSchedules(halfHours));
            Edges.outside(1, 6, Plants::thirsty, (p, halfHours) -> p.allowedSchedules(halfHours));
        });
    }
}
