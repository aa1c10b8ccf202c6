/** Promises 13 to 18, line by line. */
final class TankSentences {
    private static final int MIN = Integer.MIN_VALUE;
    private static final int MAX = Integer.MAX_VALUE;

    private TankSentences() {
    }

    static void test() {
        addTank();
        setDemand();
        setPrice();
        demand();
        readTank();
    }

    private static void addTank() {
        Sentences.test(13, "- `capacity`: the capacity, 1 to 2000",
                () -> Edges.taken(1, 2000, MembranePlant::new, (p, capacity) -> p.addTank(capacity)));
        Sentences.test(13, "Returns the number of the tank.", () -> {
            for (int i = 0; i < 3; i++) {
                Check.dueInt("after " + i + " tanks", i, Plants.withTanks(i).addTank(5));
            }
        });
        Sentences.test(13, "Throws `IllegalArgumentException` if the capacity is out of range", () -> {
            Edges.outside(1, 2000, MembranePlant::new, (p, capacity) -> p.addTank(capacity));
            Edges.outside(1, 2000, Plants::busy, (p, capacity) -> p.addTank(capacity));
            Edges.outside(1, 2000, Plants::full, (p, capacity) -> p.addTank(capacity));
        });
        Sentences.test(13, "Throws `IllegalStateException` if there are 3 tanks", () -> {
            Check.taken("the third", Plants.withTanks(2), p -> p.addTank(2000));
            Check.refused("the fourth", IllegalStateException.class, () -> Plants.withTanks(3), p -> p.addTank(1));
            Check.refused("the fourth, most", IllegalStateException.class, Plants::full, p -> p.addTank(2000));
        });
    }

    private static void setDemand() {
        Sentences.test(14, "- `first`: the first slot, 0 to 47", () -> {
            for (int i = 0; i <= 47; i++) {
                MembranePlant plant = Plants.small();
                Check.dueInt("from " + i, (48 - i) * 3, plant.setDemand(0, i, 47, 3));
                Check.dueInt("from " + i + ", there", 3, plant.demand(0, i));
                Check.dueInt("from " + i + ", ahead of it", 0, i == 0 ? 0 : plant.demand(0, i - 1));
            }
        });
        Sentences.test(14, "- `last`: the last slot, from the first one to 47", () -> {
            for (int i = 0; i <= 47; i++) {
                MembranePlant plant = Plants.small();
                Check.dueInt("to " + i, (i + 1) * 3, plant.setDemand(0, 0, i, 3));
                Check.dueInt("to " + i + ", there", 3, plant.demand(0, i));
                Check.dueInt("to " + i + ", after it", 0, i == 47 ? 0 : plant.demand(0, i + 1));
                Check.dueInt("from and to " + i, (i + 1) * 3 - 1, plant.setDemand(0, i, i, 2));
            }
        });
        Sentences.test(14, "- `demand`: the demand, 0 to 200",
                () -> Edges.taken(0, 200, Plants::busy, (p, demand) -> p.setDemand(1, 0, 47, demand)));
        Sentences.test(14, "Returns the sum of the demands of the tank for all 48 slots after the call.", () -> {
            MembranePlant plant = Plants.withTanks(3);
            Check.dueInt("one slot", 40 * 2 + 5, plant.setDemand(0, 0, 0, 5));
            Check.dueInt("the same again", 40 * 2 + 5, plant.setDemand(0, 0, 0, 5));
            Check.dueInt("the last slot", 40 * 2 + 5 + 200, plant.setDemand(0, 47, 47, 200));
            Check.dueInt("another tank", 40 * 4 + 1, plant.setDemand(2, 47, 47, 1));
            Check.dueInt("most", 9600, plant.setDemand(0, 0, 47, 200));
            Check.dueInt("least", 0, plant.setDemand(0, 0, 47, 0));
            Check.dueInt("the tank between", 40 * 3, plant.setDemand(1, 1, 1, 3));
        });
        Sentences.test(14, "Throws `IndexOutOfBoundsException` if there is no such tank", () -> {
            Edges.noSuchTank((p, tank) -> p.setDemand(tank, 0, 47, 9));
            Check.refused("with a wrong slot", IndexOutOfBoundsException.class, Plants::busy,
                    p -> p.setDemand(2, -1, 0, 9));
            Check.refused("with a wrong demand", IndexOutOfBoundsException.class, Plants::busy,
                    p -> p.setDemand(2, 0, 0, 201));
        });
        Sentences.test(14, "Throws `IllegalArgumentException` if a slot or the demand is out of range", () -> {
            for (int[] slots : wrongSlots()) {
                Check.refused("slots " + slots[0] + " to " + slots[1], IllegalArgumentException.class, Plants::busy,
                        p -> p.setDemand(1, slots[0], slots[1], 9));
            }
            Edges.outside(0, 200, Plants::busy, (p, demand) -> p.setDemand(1, 0, 47, demand));
            Edges.outside(0, 200, Plants::busy, (p, demand) -> p.setDemand(1, 5, 5, demand));
        });
    }

    private static int[][] wrongSlots() {
        return new int[][] {
            {-1, 0}, {-1, -1}, {-1, 47}, {0, -1}, {1, 0}, {47, 46}, {47, 0}, {24, 23}, {0, 48}, {47, 48}, {48, 48},
            {48, 47}, {48, 49}, {MIN, 0}, {MIN, MIN}, {MIN, MAX}, {0, MAX}, {MAX, MAX}, {MAX, MIN}, {0, MIN}};
    }

    private static void setPrice() {
        Sentences.test(15, "- `first`: the first slot, 0 to 47", () -> {
            for (int i = 0; i <= 47; i++) {
                Check.dueInt("from " + i, i + (48 - i) * 3, new MembranePlant().setPrice(i, 47, 3));
            }
        });
        Sentences.test(15, "- `last`: the last slot, from the first one to 47", () -> {
            for (int i = 0; i <= 47; i++) {
                MembranePlant plant = new MembranePlant();
                Check.dueInt("to " + i, 48 + (i + 1) * 2, plant.setPrice(0, i, 3));
                Check.dueInt("from and to " + i, 48 + (i + 1) * 2 - 1, plant.setPrice(i, i, 2));
            }
        });
        Sentences.test(15, "- `price`: the price, 0 to 99",
                () -> Edges.taken(0, 99, Plants::busy, (p, price) -> p.setPrice(0, 47, price)));
        Sentences.test(15, "Returns the sum of the prices for all 48 slots after the call.", () -> {
            MembranePlant plant = new MembranePlant();
            Check.dueInt("as it was", 48, plant.setPrice(47, 47, 1));
            Check.dueInt("the first slot", 47 + 99, plant.setPrice(0, 0, 99));
            Check.dueInt("the last slot", 46 + 99, plant.setPrice(47, 47, 0));
            Check.dueInt("most", 48 * 99, plant.setPrice(0, 47, 99));
            Check.dueInt("least", 0, plant.setPrice(0, 47, 0));
        });
        Sentences.test(15, "Throws `IllegalArgumentException` if a slot or the price is out of range", () -> {
            for (int[] slots : wrongSlots()) {
                Check.refused("slots " + slots[0] + " to " + slots[1], IllegalArgumentException.class, Plants::busy,
                        p -> p.setPrice(slots[0], slots[1], 9));
            }
            Edges.outside(0, 99, Plants::busy, (p, price) -> p.setPrice(0, 47, price));
            Edges.outside(0, 99, Plants::busy, (p, price) -> p.setPrice(5, 5, price));
        });
    }

    private static void demand() {
        Sentences.test(16, "- `slot`: the slot, 0 to 47",
                () -> Edges.taken(0, 47, Plants::busy, (p, slot) -> p.demand(1, slot)));
        Sentences.test(16, "Returns the demand.", () -> {
            MembranePlant plant = Plants.withTanks(3);
            for (int tank = 0; tank < 3; tank++) {
                for (int slot = 0; slot < 48; slot++) {
                    int due = slot >= 1 && slot <= 40 ? 2 + tank : 0;
                    Check.dueInt("tank " + tank + ", slot " + slot, due, plant.demand(tank, slot));
                }
            }
        });
        Sentences.test(16, "Throws `IndexOutOfBoundsException` if there is no such tank", () -> {
            Edges.noSuchTank((p, tank) -> p.demand(tank, 0));
            Check.refused("with a wrong slot", IndexOutOfBoundsException.class, Plants::busy, p -> p.demand(2, 48));
        });
        Sentences.test(16, "Throws `IllegalArgumentException` if the slot is out of range",
                () -> Edges.outside(0, 47, Plants::busy, (p, slot) -> p.demand(1, slot)));
    }

    private static void readTank() {
        String none = "Throws `IndexOutOfBoundsException` if there is no such tank";
        Sentences.test(17, "Returns the level.", () -> {
            MembranePlant plant = Plants.small();
            Check.dueInt("empty", 0, plant.level(0));
            plant.pass(true);
            plant.pass(true);
            Check.dueInt("almost full", 99, plant.level(0));
            plant.pass(true);
            Check.dueInt("full", 100, plant.level(0));
            plant.pass(true);
            Check.dueInt("no fuller", 100, plant.level(0));
            plant.setDemand(0, 4, 4, 100);
            plant.pass(false);
            Check.dueInt("empty again", 0, plant.level(0));
            plant.pass(false);
            Check.dueInt("no emptier", 0, plant.level(0));
        });
        Sentences.test(17, none, () -> Edges.noSuchTank((p, tank) -> p.level(tank)));
        Sentences.test(18, "Returns how much a tank was short so far.", () -> {
            MembranePlant plant = Plants.small();
            plant.setDemand(0, 0, 0, 51);
            plant.setDemand(0, 1, 1, 49);
            plant.setDemand(0, 2, 2, 200);
            Check.dueInt("never", 0, plant.shortOf(0));
            plant.pass(true);
            Check.dueInt("by one", 1, plant.shortOf(0));
            plant.pass(true);
            Check.dueInt("exactly served", 1, plant.shortOf(0));
            plant.pass(false);
            Check.dueInt("by all", 201, plant.shortOf(0));
            plant.pass(true);
            Check.dueInt("no demand", 201, plant.shortOf(0));
        });
        Sentences.test(18, none, () -> Edges.noSuchTank((p, tank) -> p.shortOf(tank)));
    }
}
