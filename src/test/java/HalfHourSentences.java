/** Promises 19 to 24, line by line. */
final class HalfHourSentences {
    private static final int MAX = Integer.MAX_VALUE;

    private HalfHourSentences() {
    }

    static void test() {
        pass();
        run();
        setHorizon();
        order();
        takeBack();
        Sentences.test(24, "Returns the number of the present half hour.", HalfHourSentences::halfHour);
    }

    private static void pass() {
        Sentences.test(19, "Lets the present half hour pass, whatever its order.", () -> {
            for (int i = 0; i < 4; i++) {
                boolean isOrderedOn = i / 2 == 1;
                boolean isOn = i % 2 == 1;
                MembranePlant plant = Plants.small();
                plant.order(0, isOrderedOn);
                plant.order(1, isOrderedOn);
                Check.dueInt("ordered " + isOrderedOn + ", " + isOn, isOn ? 50 : 0, plant.pass(isOn));
                Check.dueInt("ordered " + isOrderedOn + ", one has passed", 1, plant.halfHour());
                Check.dueInt("ordered " + isOrderedOn + ", forgotten, the next one kept", 2, plant.order(2, true));
            }
        });
        Sentences.test(19, "Returns the sum of all products.", () -> {
            for (int i = 0; i <= 4; i++) {
                MembranePlant plant = Plants.withTrains(i);
                Check.dueInt(i + " trains, off", 0, plant.pass(false));
                Check.dueInt(i + " trains, on", i * 49, plant.pass(true));
                for (int train = 0; train < i; train++) {
                    plant.clean(train);
                }
                Check.dueInt(i + " trains, all being cleaned", 0, plant.pass(true));
            }
            MembranePlant most = Plants.withTrains(0);
            for (int i = 0; i < 4; i++) {
                most.addTrain(20);
                most.setPressure(i, 70);
            }
            most.setSalinity(20);
            Check.dueInt("most", 800, most.pass(true));
        });
    }

    private static void run() {
        Sentences.test(20, "Lets half hours pass, each one on or off as ordered, or, if it has no order, as told by the"
                + " best schedule for as many half hours as the horizon, which is made anew for each one; if there is"
                + " none, it is on.", HalfHourSentences::runAsTold);
        Sentences.test(20, "- `halfHours`: the number of half hours, 1 to 12", () -> {
            for (int i = 1; i <= 12; i++) {
                MembranePlant plant = Plants.busy();
                plant.run(i);
                Check.dueInt("passed", 3 + i, plant.halfHour());
            }
        });
        Sentences.test(20, "Returns how many of them were on.", () -> {
            Check.dueInt("all of 12", 12, alwaysShort().run(12));
            Check.dueInt("all of one", 1, alwaysShort().run(1));
            Check.dueInt("none of one", 0, Plants.small().run(1));
            Check.dueInt("none of 12", 0, Plants.small().run(12));
            MembranePlant plant = Plants.small();
            plant.order(0, true);
            plant.order(11, true);
            plant.order(12, true);
            Check.dueInt("the first and the last of 12", 2, plant.run(12));
            Check.dueInt("the one after them", 1, plant.run(1));
        });
        Sentences.test(20, "Throws `IllegalArgumentException` if the number is out of range",
                () -> Edges.outside(1, 12, Plants::busy, (p, halfHours) -> p.run(halfHours)));
    }

    private static MembranePlant alwaysShort() {
        MembranePlant plant = Plants.small();
        plant.setDemand(0, 0, 47, 200);
        return plant;
    }

    /** Water is due at this half hour, and is cheap in the half hour 0 alone. */
    private static MembranePlant cheapFirst(int due) {
        MembranePlant plant = Plants.small();
        plant.setPrice(1, 47, 9);
        plant.setDemand(0, due, due, 30);
        return plant;
    }

    private static void runAsTold() {
        for (int horizon = 1; horizon <= 6; horizon++) {
            for (int due = 0; due <= 6; due++) {
                MembranePlant plant = cheapFirst(due);
                plant.setHorizon(horizon);
                String name = "horizon " + horizon + ", due at " + due;
                Check.dueInt(name, due < horizon ? 1 : 0, plant.run(1));
                Check.dueInt(name + ", on in time", due < horizon ? 0 : 1, plant.run(6));
                Check.dueInt(name + ", served", 0, plant.shortOf(0));
                Check.dueLong(name + ", once", due < horizon ? 313 : 313 * 9, plant.cost());
            }
        }
        MembranePlant ordered = cheapFirst(2);
        ordered.order(0, false);
        ordered.order(2, false);
        Check.dueInt("ordered off, and on between", 1, ordered.run(3));
        Check.dueLong("between", 313 * 9, ordered.cost());
        MembranePlant dear = Plants.small();
        dear.order(0, true);
        Check.dueInt("ordered on, needlessly", 1, dear.run(2));
        MembranePlant none = alwaysShort();
        none.order(1, false);
        Check.dueInt("none is allowed: on, ordered off, on", 2, none.run(3));
        MembranePlant later = Plants.shortAt(3);
        Check.dueInt("none is allowed, for the last of four", 1, later.run(1));
        MembranePlant beyond = Plants.shortAt(4);
        Check.dueInt("short beyond the horizon", 0, beyond.run(1));
        Check.dueInt("then within it: made anew", 1, beyond.run(1));
        // On in the half hour 0 as the cheaper one; then a schedule from the half hour 1 on is made.
        MembranePlant anew = cheapFirst(1);
        anew.setDemand(0, 4, 4, 60);
        anew.setPrice(3, 3, 2);
        Check.dueInt("made anew for each", 2, anew.run(5));
        Check.dueLong("in the half hours 0 and 3", 313 + 308 * 2, anew.cost());
    }

    private static void setHorizon() {
        Sentences.test(21, "- `halfHours`: the horizon, 1 to 6; it is initially 4", () -> {
            Edges.taken(1, 6, Plants::busy, (p, halfHours) -> p.setHorizon(halfHours));
            Check.dueInt("initially", 4, new MembranePlant().setHorizon(4));
            Check.dueInt("initially sees the fourth", 1, cheapFirst(3).run(1));
            Check.dueInt("initially does not see the fifth", 0, cheapFirst(4).run(1));
        });
        Sentences.test(21, "Returns the horizon before.", () -> {
            MembranePlant plant = new MembranePlant();
            Check.dueInt("never set", 4, plant.setHorizon(6));
            Check.answer(() -> plant.setHorizon(7));
            Check.dueInt("most", 6, plant.setHorizon(1));
            Check.answer(() -> plant.setHorizon(0));
            Check.dueInt("least", 1, plant.setHorizon(1));
            Check.dueInt("the same again", 1, plant.setHorizon(3));
        });
        Sentences.test(21, "Throws `IllegalArgumentException` if the horizon is out of range",
                () -> Edges.outside(1, 6, Plants::busy, (p, halfHours) -> p.setHorizon(halfHours)));
    }

    private static void order() {
        Sentences.test(22, "Orders that a half hour is on or off, in place of an order that it has.", () -> {
            MembranePlant plant = Plants.full();
            Check.dueInt("in place, with six", 6, plant.order(5, true));
            Check.dueBool("the new one", true, plant.takeBack(5));
            Check.dueInt("anew", 6, plant.order(5, false));
            Check.dueInt("in place, the same", 6, plant.order(5, false));
            Check.dueBool("the same", false, plant.takeBack(5));
            Check.dueBool("its neighbour", true, plant.takeBack(6));
        });
        Sentences.test(22, "- `halfHour`: the number of the half hour, the present one or a later one", () -> {
            int[] later = {13, 14, 61, MAX};
            for (int halfHour : later) {
                MembranePlant plant = Plants.withTrains(1);
                plant.run(12);
                Check.dueInt("half hour " + halfHour, 1, plant.order(halfHour, true));
                Check.dueBool("half hour " + halfHour + ", there", true, plant.takeBack(halfHour));
            }
        });
        Sentences.test(22, "Returns the number of orders after the call.", () -> {
            MembranePlant plant = Plants.small();
            for (int i = 0; i < 6; i++) {
                Check.dueInt("order " + i, i + 1, plant.order(10 - i, i % 2 == 0));
                Check.dueInt("order " + i + " in place", i + 1, plant.order(10 - i, i % 2 == 1));
            }
            Check.answer(() -> plant.order(11, true));
            Check.dueInt("no more", 6, plant.order(10, true));
            plant.takeBack(10);
            plant.takeBack(5);
            Check.dueInt("two less, one more", 5, plant.order(5, true));
        });
        Sentences.test(22, "Throws `IllegalArgumentException` if the half hour has passed", () -> {
            int[] passed = {2, 1, 0, -1, -48, Integer.MIN_VALUE};
            for (int halfHour : passed) {
                Check.refused("half hour " + halfHour, IllegalArgumentException.class, Plants::busy,
                        p -> p.order(halfHour, true));
                Check.refused("half hour " + halfHour + " with six", IllegalArgumentException.class, Plants::full,
                        p -> p.order(halfHour, false));
            }
            Check.refused("ahead of 0", IllegalArgumentException.class, MembranePlant::new, p -> p.order(-1, true));
            Check.refused("0", IllegalArgumentException.class, () -> Plants.withTrains(1), p -> p.order(0, true));
            Check.taken("the present one", Plants.busy(), p -> p.order(3, true));
        });
        Sentences.test(22, "Throws `IllegalStateException` if it has no order and there are 6 orders", () -> {
            int[] others = {3, 4, 11, 53, MAX};
            for (int halfHour : others) {
                Check.refused("half hour " + halfHour, IllegalStateException.class, Plants::full,
                        p -> p.order(halfHour, true));
                Check.taken("half hour " + halfHour + " in place of one", Plants.full(), p -> {
                    p.takeBack(8);
                    p.order(halfHour, true);
                });
            }
            for (int i = 5; i <= 10; i++) {
                int halfHour = i;
                Check.taken("half hour " + i + ", which has one", Plants.full(), p -> p.order(halfHour, true));
            }
        });
    }

    private static void takeBack() {
        Sentences.test(23, "Takes the order of a half hour back.", () -> {
            for (int i = 0; i < 6; i++) {
                int halfHour = i;
                MembranePlant plant = new MembranePlant();
                for (int j = 0; j < 6; j++) {
                    plant.order(j, j % 2 == 0);
                }
                Check.dueBool("half hour " + i, i % 2 == 0, plant.takeBack(i));
                Check.due("half hour " + i + " again", "throws.NoSuchElementException",
                        Check.answer(() -> plant.takeBack(halfHour)));
                Check.dueInt("half hour " + i + ", one place", 6, plant.order(20, true));
                for (int j = 0; j < 6; j++) {
                    if (j != i) {
                        Check.dueBool("without " + i + ", " + j, j % 2 == 0, plant.takeBack(j));
                    }
                }
            }
        });
        Sentences.test(23, "Returns whether it was on.", () -> {
            MembranePlant plant = new MembranePlant();
            plant.order(0, true);
            plant.order(MAX, false);
            Check.dueBool("on", true, plant.takeBack(0));
            Check.dueBool("off", false, plant.takeBack(MAX));
        });
        Sentences.test(23, "Throws `NoSuchElementException` if it has no order", () -> {
            int[] without = {4, 6, 7, 9, 53, 5 - 48, 2, 0, -1, Integer.MIN_VALUE, MAX};
            for (int halfHour : without) {
                Check.refused("half hour " + halfHour, java.util.NoSuchElementException.class, Plants::busy,
                        p -> p.takeBack(halfHour));
            }
            Check.refused("no orders", java.util.NoSuchElementException.class, Plants::small, p -> p.takeBack(0));
            for (int i = 0; i < 2; i++) {
                boolean isRun = i == 0;
                Check.refused("passed, run " + isRun, java.util.NoSuchElementException.class, () -> {
                    MembranePlant plant = Plants.small();
                    plant.order(0, true);
                    plant.order(1, true);
                    if (isRun) {
                        plant.run(1);
                    } else {
                        plant.pass(false);
                    }
                    return plant;
                }, p -> p.takeBack(0));
            }
        });
    }

    private static void halfHour() {
        MembranePlant plant = Plants.small();
        Check.dueInt("initially", 0, plant.halfHour());
        for (int i = 1; i <= 100; i++) {
            plant.pass(i % 3 == 0);
            Check.dueInt("after " + i, i, plant.halfHour());
        }
        plant.run(12);
        Check.dueInt("after 12 more", 112, plant.halfHour());
    }
}
