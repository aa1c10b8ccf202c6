/** Promises 13 to 18: tanks and tables. */
public final class TanksTest {
    private static final int MIN = Integer.MIN_VALUE;
    private static final int MAX = Integer.MAX_VALUE;

    private TanksTest() {
    }

    public static void main(String[] args) {
        addTank();
        setDemand();
        setDemandRefused();
        setPrice();
        setPriceRefused();
        demand();
        level();
        shortOf();
        noSuchTank();
        Check.end();
    }

    private static void addTank() {
        MembranePlant plant = new MembranePlant();
        plant.addTrain(20);
        Check.dueInt("13 least", 0, plant.addTank(1));
        Check.dueInt("13 most", 1, plant.addTank(2000));
        Check.dueInt("13 third", 2, plant.addTank(50));
        for (int i = 0; i < 3; i++) {
            Check.dueInt("13 level", 0, plant.level(i));
            Check.dueInt("13 short", 0, plant.shortOf(i));
            Check.dueInt("13 demands", 0, plant.setDemand(i, 0, 0, 0));
        }
        for (int i = 0; i < 40; i++) {
            plant.setPressure(0, 70);
            plant.setSalinity(20);
            plant.pass(true);
        }
        Check.dueInt("13 holds 1", 1, plant.level(0));
        Check.dueInt("13 holds 2000", 2000, plant.level(1));
        Check.dueInt("13 holds 50", 50, plant.level(2));
        int[] wrong = {0, 2001, -1, MIN, MAX};
        for (int capacity : wrong) {
            Check.refused("13 capacity " + capacity, IllegalArgumentException.class, Plants::busy,
                    p -> p.addTank(capacity));
            Check.refused("13 fourth of " + capacity, IllegalArgumentException.class, Plants::full,
                    p -> p.addTank(capacity));
        }
        Check.refused("13 fourth", IllegalStateException.class, Plants::full, p -> p.addTank(5));
    }

    private static void setDemand() {
        MembranePlant plant = new MembranePlant();
        plant.addTank(100);
        plant.addTank(100);
        Check.dueInt("14 all", 48 * 200, plant.setDemand(0, 0, 47, 200));
        Check.dueInt("14 other tank", 7, plant.setDemand(1, 5, 5, 7));
        Check.dueInt("14 some", 45 * 200 + 3, plant.setDemand(0, 10, 12, 1));
        Check.dueInt("14 first", 44 * 200 + 3, plant.setDemand(0, 0, 0, 0));
        Check.dueInt("14 last", 43 * 200 + 5, plant.setDemand(0, 47, 47, 2));
        Check.dueInt("14 none", 0, plant.setDemand(0, 0, 47, 0));
        Check.dueInt("14 other tank is kept", 8, plant.setDemand(1, 6, 6, 1));
    }

    private static void setDemandRefused() {
        int[][] wrong = {
            {-1, 5, 1}, {0, 48, 1}, {5, 4, 1}, {48, 48, 1}, {MIN, 3, 1}, {3, MAX, 1}, {3, MIN, 1}, {MAX, MAX, 1},
            {MIN, MIN, 1}, {-2, -1, 1}, {MAX, 3, 1}, {0, 47, 201}, {0, 47, -1}, {0, 47, MIN}, {0, 47, MAX}};
        for (int[] row : wrong) {
            String name = "14 slots " + row[0] + " to " + row[1] + ", demand " + row[2];
            Check.refused(name, IllegalArgumentException.class, Plants::busy,
                    p -> p.setDemand(1, row[0], row[1], row[2]));
            Check.refused(name + ", no tank", IndexOutOfBoundsException.class, Plants::busy,
                    p -> p.setDemand(2, row[0], row[1], row[2]));
        }
    }

    private static void setPrice() {
        MembranePlant plant = Plants.small();
        Check.dueInt("15 initially 1", 48, plant.setPrice(3, 3, 1));
        Check.dueInt("15 some", 44 + 4 * 10, plant.setPrice(2, 5, 10));
        Check.dueInt("15 first", 43 + 4 * 10, plant.setPrice(0, 0, 0));
        Check.dueInt("15 last", 42 + 4 * 10 + 99, plant.setPrice(47, 47, 99));
        Check.dueInt("15 all", 48 * 99, plant.setPrice(0, 47, 99));
        Check.dueInt("15 none", 0, plant.setPrice(0, 47, 0));
        plant.setPrice(1, 1, 3);
        plant.pass(true);
        Check.dueLong("15 free", 0, plant.cost());
        int energy = plant.energyOf(0);
        plant.pass(true);
        Check.dueLong("15 three each", 3L * energy, plant.cost());
        plant.pass(true);
        Check.dueLong("15 free again", 3L * energy, plant.cost());
    }

    private static void setPriceRefused() {
        int[][] wrong = {
            {-1, 5, 1}, {0, 48, 1}, {5, 4, 1}, {48, 48, 1}, {MIN, 3, 1}, {3, MAX, 1}, {3, MIN, 1}, {MAX, MAX, 1},
            {MIN, MIN, 1}, {-2, -1, 1}, {MAX, 3, 1}, {0, 47, 100}, {0, 47, -1}, {0, 47, MIN}, {0, 47, MAX}};
        for (int[] row : wrong) {
            Check.refused("15 slots " + row[0] + " to " + row[1] + ", price " + row[2],
                    IllegalArgumentException.class, Plants::busy, p -> p.setPrice(row[0], row[1], row[2]));
        }
    }

    private static void demand() {
        MembranePlant plant = Plants.small();
        plant.addTank(9);
        plant.setDemand(0, 0, 10, 4);
        plant.setDemand(0, 10, 47, 200);
        plant.setDemand(1, 3, 3, 6);
        Check.dueInt("16 first", 4, plant.demand(0, 0));
        Check.dueInt("16 before", 4, plant.demand(0, 9));
        Check.dueInt("16 replaced", 200, plant.demand(0, 10));
        Check.dueInt("16 last", 200, plant.demand(0, 47));
        Check.dueInt("16 initially", 0, plant.demand(1, 2));
        Check.dueInt("16 one slot", 6, plant.demand(1, 3));
        Check.dueInt("16 after", 0, plant.demand(1, 4));
        int[] wrong = {-1, 48, MIN, MAX};
        for (int slot : wrong) {
            Check.refused("16 slot " + slot, IllegalArgumentException.class, Plants::busy, p -> p.demand(0, slot));
            Check.refused("16 no tank, slot " + slot, IndexOutOfBoundsException.class, Plants::busy,
                    p -> p.demand(2, slot));
        }
    }

    private static void level() {
        MembranePlant plant = new MembranePlant();
        plant.addTrain(10);
        plant.addTank(30);
        plant.addTank(15);
        plant.addTank(40);
        // 50: the first two are filled in their order, the third has the rest.
        plant.pass(true);
        Check.dueInt("17 first", 30, plant.level(0));
        Check.dueInt("17 second", 15, plant.level(1));
        Check.dueInt("17 third", 5, plant.level(2));
        Check.dueLong("17 nothing spilled", 0, plant.spilled());
        // The tanks are filled before they serve.
        plant.setDemand(0, 1, 1, 12);
        plant.setDemand(2, 1, 1, 41);
        plant.pass(true);
        Check.dueInt("17 first serves", 18, plant.level(0));
        Check.dueInt("17 second keeps", 15, plant.level(1));
        Check.dueInt("17 third serves all", 0, plant.level(2));
        Check.dueLong("17 49 less 35 spilled", 14, plant.spilled());
        Check.dueInt("17 third is short", 1, plant.shortOf(2));
        plant.pass(false);
        Check.dueInt("17 off", 18, plant.level(0));
    }

    private static void shortOf() {
        MembranePlant plant = new MembranePlant();
        plant.addTank(30);
        plant.addTank(30);
        plant.setDemand(0, 0, 0, 7);
        plant.setDemand(1, 0, 1, 200);
        plant.pass(true);
        Check.dueInt("18 first", 7, plant.shortOf(0));
        Check.dueInt("18 second", 200, plant.shortOf(1));
        plant.addTrain(10);
        plant.pass(true);
        Check.dueInt("18 no more", 7, plant.shortOf(0));
        Check.dueInt("18 adds up", 380, plant.shortOf(1));
        for (int i = 2; i <= 48; i++) {
            plant.pass(false);
        }
        Check.dueInt("18 slot 0 again, served", 7, plant.shortOf(0));
        Check.dueInt("18 slot 0 again", 580, plant.shortOf(1));
        Check.dueInt("18 level", 23, plant.level(0));
    }

    private static void noSuchTank() {
        int[] wrong = {2, 3, -1, MIN, MAX};
        for (int tank : wrong) {
            String name = "no tank " + tank;
            Class<IndexOutOfBoundsException> kind = IndexOutOfBoundsException.class;
            Check.refused("14 " + name, kind, Plants::busy, p -> p.setDemand(tank, 0, 1, 1));
            Check.refused("16 " + name, kind, Plants::busy, p -> p.demand(tank, 0));
            Check.refused("17 " + name, kind, Plants::busy, p -> p.level(tank));
            Check.refused("18 " + name, kind, Plants::busy, p -> p.shortOf(tank));
        }
        Check.refused("17 fourth tank", IndexOutOfBoundsException.class, Plants::full, p -> p.level(3));
    }
}
