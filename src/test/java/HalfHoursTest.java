/** Promises 19 to 24: half hours and orders. */
public final class HalfHoursTest {
    private static final int MIN = Integer.MIN_VALUE;
    private static final int MAX = Integer.MAX_VALUE;

    private HalfHoursTest() {
    }

    public static void main(String[] args) {
        pass();
        passAgainstOrder();
        runAsOrdered();
        runAsPlanned();
        runWithHorizon();
        runMadeAnew();
        runWithoutSchedule();
        runWithLaterOrder();
        runRefused();
        setHorizon();
        order();
        orderRefused();
        takeBack();
        halfHour();
        Check.end();
    }

    private static void pass() {
        MembranePlant plant = Plants.small();
        plant.addTrain(5);
        Check.dueInt("19 on", 75, plant.pass(true));
        Check.dueInt("19 off", 0, plant.pass(false));
        // 10 * 25 * 98 / 500 and 5 * 25 * 98 / 500 = 24.5
        Check.dueInt("19 on again", 49 + 24, plant.pass(true));
        Check.dueInt("19 without trains", 0, new MembranePlant().pass(true));
    }

    private static void passAgainstOrder() {
        MembranePlant plant = Plants.small();
        plant.order(0, false);
        plant.order(1, true);
        Check.dueInt("19 ordered off", 50, plant.pass(true));
        Check.dueInt("19 ordered on", 0, plant.pass(false));
        Check.dueInt("19 orders are forgotten", 1, plant.order(7, true));
    }

    private static void runAsOrdered() {
        MembranePlant plant = Plants.small();
        plant.setDemand(0, 0, 47, 1);
        plant.order(0, false);
        plant.order(1, true);
        plant.order(2, true);
        plant.order(3, false);
        plant.order(20, true);
        Check.dueInt("20 two of four on", 2, plant.run(4));
        Check.dueInt("20 half hour", 4, plant.halfHour());
        Check.dueLong("20 product", 50 + 49, plant.product());
        Check.dueInt("20 short in the first", 1, plant.shortOf(0));
        Check.dueInt("20 passed orders are forgotten", 2, plant.order(10, false));
    }

    private static void runAsPlanned() {
        // 10 a half hour from a tank of 100: on, then off while the water lasts.
        MembranePlant plant = Plants.small();
        plant.setDemand(0, 0, 47, 10);
        Check.dueInt("20 on first", 1, plant.run(1));
        Check.dueInt("20 off while it lasts", 0, plant.run(4));
        Check.dueInt("20 empty", 0, plant.level(0));
        Check.dueInt("20 on again", 1, plant.run(1));
        Check.dueLong("20 product", 99, plant.product());
        MembranePlant idle = Plants.small();
        Check.dueInt("20 most half hours, no demand", 0, idle.run(12));
        Check.dueInt("20 twelve passed", 12, idle.halfHour());
    }

    /** Water is asked for in half hour 2 and is cheap only in half hour 0. */
    private static MembranePlant cheapFirst(int horizon) {
        MembranePlant plant = Plants.small();
        plant.setPrice(1, 2, 50);
        plant.setDemand(0, 2, 2, 30);
        plant.setHorizon(horizon);
        return plant;
    }

    private static void runWithHorizon() {
        Check.dueInt("20 sees one", 0, cheapFirst(1).run(1));
        Check.dueInt("20 sees two", 0, cheapFirst(2).run(1));
        Check.dueInt("20 sees three", 1, cheapFirst(3).run(1));
        Check.dueInt("20 sees six", 1, cheapFirst(6).run(1));
        MembranePlant plant = cheapFirst(4);
        plant.setDemand(0, 2, 2, 0);
        plant.setDemand(0, 4, 4, 30);
        plant.setPrice(3, 4, 50);
        Check.dueInt("20 initially four", 0, plant.run(1));
    }

    private static void runMadeAnew() {
        MembranePlant plant = cheapFirst(2);
        plant.setPrice(1, 1, 2);
        Check.dueInt("20 on once", 1, plant.run(3));
        // 50 of product in half hour 1 at 2: 313 of energy.
        Check.dueLong("20 in half hour 1", 626, plant.cost());
        Check.dueInt("20 nothing short", 0, plant.shortOf(0));
    }

    private static void runWithoutSchedule() {
        MembranePlant plant = Plants.small();
        plant.setDemand(0, 1, 1, 200);
        Check.dueInt("20 none allowed", 2, plant.run(2));
        Check.dueInt("20 short", 101, plant.shortOf(0));
        MembranePlant ordered = Plants.small();
        ordered.setDemand(0, 1, 1, 10);
        ordered.order(0, false);
        ordered.order(1, false);
        Check.dueInt("20 ordered off, none allowed", 0, ordered.run(2));
        Check.dueInt("20 short by order", 10, ordered.shortOf(0));
    }

    private static void runWithLaterOrder() {
        MembranePlant plant = Plants.small();
        plant.setPrice(0, 0, 99);
        plant.setDemand(0, 1, 1, 10);
        plant.order(1, false);
        Check.dueInt("20 on, for later it must be off", 1, plant.run(2));
        Check.dueLong("20 product", 50, plant.product());
        Check.dueInt("20 nothing short", 0, plant.shortOf(0));
    }

    private static void runRefused() {
        int[] wrong = {0, 13, -1, MIN, MAX};
        for (int halfHours : wrong) {
            Check.refused("20 run " + halfHours, IllegalArgumentException.class, Plants::busy, p -> p.run(halfHours));
        }
    }

    private static void setHorizon() {
        MembranePlant plant = new MembranePlant();
        Check.dueInt("21 initially", 4, plant.setHorizon(1));
        Check.dueInt("21 least", 1, plant.setHorizon(6));
        Check.dueInt("21 most", 6, plant.setHorizon(5));
        int[] wrong = {0, 7, -1, MIN, MAX};
        for (int halfHours : wrong) {
            Check.refused("21 horizon " + halfHours, IllegalArgumentException.class, Plants::busy,
                    p -> p.setHorizon(halfHours));
        }
    }

    private static void order() {
        MembranePlant plant = new MembranePlant();
        plant.pass(true);
        Check.dueInt("22 present", 1, plant.order(1, true));
        Check.dueInt("22 later", 2, plant.order(5, true));
        Check.dueInt("22 in place", 2, plant.order(5, false));
        Check.dueInt("22 far", 3, plant.order(MAX, true));
        Check.dueInt("22 fourth", 4, plant.order(48, true));
        Check.dueInt("22 fifth", 5, plant.order(49, false));
        Check.dueInt("22 sixth", 6, plant.order(2, false));
        Check.dueInt("22 in place of six", 6, plant.order(1, false));
        Check.dueBool("22 replaced", false, plant.takeBack(1));
        Check.dueInt("22 sixth again", 6, plant.order(3, true));
        plant.pass(true);
        plant.pass(true);
        Check.dueInt("22 one has passed", 6, plant.order(4, true));
        Check.dueBool("22 was replaced", false, plant.takeBack(5));
        Check.dueBool("22 far is kept", true, plant.takeBack(MAX));
    }

    private static void orderRefused() {
        int[] passed = {2, 1, 0, -1, MIN};
        for (int halfHour : passed) {
            Check.refused("22 passed " + halfHour, IllegalArgumentException.class, Plants::busy,
                    p -> p.order(halfHour, true));
            Check.refused("22 seventh, passed " + halfHour, IllegalArgumentException.class, Plants::full,
                    p -> p.order(halfHour, true));
        }
        int[] further = {3, 4, 11, 53, MAX};
        for (int halfHour : further) {
            Check.refused("22 seventh " + halfHour, IllegalStateException.class, Plants::full,
                    p -> p.order(halfHour, true));
        }
    }

    private static void takeBack() {
        MembranePlant plant = new MembranePlant();
        plant.order(0, true);
        plant.order(1, false);
        plant.order(2, true);
        Check.dueBool("23 first", true, plant.takeBack(0));
        Check.dueBool("23 last", true, plant.takeBack(2));
        Check.dueInt("23 one is left", 2, plant.order(9, true));
        Check.dueBool("23 middle", false, plant.takeBack(1));
        plant.order(1, true);
        Check.dueBool("23 anew", true, plant.takeBack(1));
        int[] wrong = {0, 2, 3, 4, 7, 9, -1, MIN, MAX};
        for (int halfHour : wrong) {
            Check.refused("23 none " + halfHour, java.util.NoSuchElementException.class, Plants::busy,
                    p -> p.takeBack(halfHour));
        }
        Check.refused("23 taken back", java.util.NoSuchElementException.class, () -> {
            MembranePlant busy = Plants.busy();
            busy.takeBack(5);
            return busy;
        }, p -> p.takeBack(5));
        Check.refused("23 passed", java.util.NoSuchElementException.class, () -> {
            MembranePlant busy = Plants.busy();
            busy.run(3);
            return busy;
        }, p -> p.takeBack(5));
    }

    private static void halfHour() {
        MembranePlant plant = new MembranePlant();
        Check.dueInt("24 initially", 0, plant.halfHour());
        plant.pass(false);
        Check.dueInt("24 off", 1, plant.halfHour());
        plant.pass(true);
        Check.dueInt("24 on", 2, plant.halfHour());
        plant.run(12);
        Check.dueInt("24 run", 14, plant.halfHour());
        plant.run(1);
        plant.bestCost(6);
        plant.allowedSchedules(6);
        Check.dueInt("24 nothing else passes", 15, plant.halfHour());
        for (int i = 0; i < 10; i++) {
            plant.run(12);
        }
        Check.dueInt("24 beyond a day", 135, plant.halfHour());
    }
}
