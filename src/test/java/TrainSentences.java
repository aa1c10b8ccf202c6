/** Promises 1 to 12, line by line. */
final class TrainSentences {
    private TrainSentences() {
    }

    static void test() {
        Sentences.test(1, "Creates a plant without trains and tanks.", TrainSentences::newObject);
        addTrain();
        setPressure();
        setSalinity();
        setRecovery();
        clean();
        readTrain();
        productOf();
        energyOf();
        Sentences.test(12, "Returns the number of trains that are ready.", TrainSentences::readyTrains);
    }

    private static void newObject() {
        Check.dueInt("ready", 0, new MembranePlant().readyTrains());
        Check.due("no train", "throws.IndexOutOfBoundsException", Check.answer(() -> new MembranePlant().wear(0)));
        Check.due("no tank", "throws.IndexOutOfBoundsException", Check.answer(() -> new MembranePlant().level(0)));
        Check.dueInt("no product", 0, new MembranePlant().pass(true));
        Check.dueInt("no schedule costs", 0, new MembranePlant().bestCost(6));
        Check.dueInt("no half hour on", 0, new MembranePlant().run(12));
        Check.dueBool("balanced", true, new MembranePlant().isBalanced());
        MembranePlant used = Plants.full();
        Check.due("another one was used", "throws.IndexOutOfBoundsException",
                Check.answer(() -> new MembranePlant().fouling(0)));
        Check.dueInt("the other one is kept", 4, used.readyTrains() + 1);
    }

    private static void addTrain() {
        Sentences.test(2, "- `area`: the area, 1 to 20",
                () -> Edges.taken(1, 20, Plants::busy, (p, area) -> p.addTrain(area)));
        Sentences.test(2, "Returns the number of the train.", () -> {
            for (int i = 0; i < 4; i++) {
                Check.dueInt("after " + i + " trains", i, Plants.withTrains(i).addTrain(5));
            }
        });
        Sentences.test(2, "Throws `IllegalArgumentException` if the area is out of range", () -> {
            Edges.outside(1, 20, MembranePlant::new, (p, area) -> p.addTrain(area));
            Edges.outside(1, 20, Plants::busy, (p, area) -> p.addTrain(area));
            Edges.outside(1, 20, Plants::full, (p, area) -> p.addTrain(area));
        });
        Sentences.test(2, "Throws `IllegalStateException` if there are 4 trains", () -> {
            Check.taken("the fourth", Plants.withTrains(3), p -> p.addTrain(20));
            Check.refused("the fifth", IllegalStateException.class, () -> Plants.withTrains(4), p -> p.addTrain(1));
            Check.refused("the fifth, most", IllegalStateException.class, Plants::full, p -> p.addTrain(20));
        });
    }

    private static void setPressure() {
        Sentences.test(3, "- `pressure`: the pressure, 30 to 70",
                () -> Edges.taken(30, 70, Plants::busy, (p, pressure) -> p.setPressure(0, pressure)));
        Sentences.test(3, "Returns the pressure before.", () -> {
            MembranePlant plant = Plants.withTrains(2);
            Check.dueInt("never set", 50, plant.setPressure(0, 70));
            Check.dueInt("most", 70, plant.setPressure(0, 30));
            Check.answer(() -> plant.setPressure(0, 71));
            Check.answer(() -> plant.setPressure(0, 29));
            Check.dueInt("least", 30, plant.setPressure(0, 30));
            Check.dueInt("the same again", 30, plant.setPressure(0, 45));
            Check.dueInt("another train's", 50, plant.setPressure(1, 45));
            plant.clean(0);
            Check.dueInt("while being cleaned", 45, plant.setPressure(0, 44));
        });
        Sentences.test(3, "Throws `IndexOutOfBoundsException` if there is no such train", () -> {
            Edges.noSuchTrain((p, train) -> p.setPressure(train, 50));
            Check.refused("with a wrong pressure", IndexOutOfBoundsException.class, Plants::busy,
                    p -> p.setPressure(2, 71));
        });
        Sentences.test(3, "Throws `IllegalArgumentException` if the pressure is out of range", () -> {
            Edges.outside(30, 70, Plants::busy, (p, pressure) -> p.setPressure(0, pressure));
            Edges.outside(30, 70, () -> Plants.cleaned(1), (p, pressure) -> p.setPressure(0, pressure));
        });
    }

    private static void setSalinity() {
        Sentences.test(4, "- `salinity`: the salinity, 20 to 35",
                () -> Edges.taken(20, 35, Plants::busy, (p, salinity) -> p.setSalinity(salinity)));
        Sentences.test(4, "Returns the salinity before.", () -> {
            MembranePlant plant = new MembranePlant();
            Check.dueInt("never set", 25, plant.setSalinity(20));
            Check.dueInt("least", 20, plant.setSalinity(35));
            Check.answer(() -> plant.setSalinity(36));
            Check.answer(() -> plant.setSalinity(19));
            Check.dueInt("most", 35, plant.setSalinity(35));
            Check.dueInt("the same again", 35, plant.setSalinity(25));
        });
        Sentences.test(4, "Throws `IllegalArgumentException` if the salinity is out of range",
                () -> Edges.outside(20, 35, Plants::busy, (p, salinity) -> p.setSalinity(salinity)));
    }

    private static void setRecovery() {
        Sentences.test(5, "- `percent`: the recovery, 30 to 60",
                () -> Edges.taken(30, 60, Plants::busy, (p, percent) -> p.setRecovery(percent)));
        Sentences.test(5, "Returns the recovery before.", () -> {
            MembranePlant plant = new MembranePlant();
            Check.dueInt("never set", 40, plant.setRecovery(30));
            Check.dueInt("least", 30, plant.setRecovery(60));
            Check.answer(() -> plant.setRecovery(61));
            Check.answer(() -> plant.setRecovery(29));
            Check.dueInt("most", 60, plant.setRecovery(60));
            Check.dueInt("the same again", 60, plant.setRecovery(40));
        });
        Sentences.test(5, "Throws `IllegalArgumentException` if the recovery is out of range",
                () -> Edges.outside(30, 60, Plants::busy, (p, percent) -> p.setRecovery(percent)));
    }

    private static void clean() {
        Sentences.test(6, "Returns the number of half hours that it has left.", () -> {
            int[] foulings = {1, 19, 20, 80, 90};
            int[] halfHours = {2, 2, 3, 6, 6};
            for (int i = 0; i < foulings.length; i++) {
                MembranePlant plant = Plants.fouled(foulings[i]);
                Check.dueInt("fouling " + foulings[i], halfHours[i], plant.clean(0));
                Check.dueInt("fouling " + foulings[i] + ", left", halfHours[i], plant.cleaningLeft(0));
            }
        });
        Sentences.test(6, "Throws `IndexOutOfBoundsException` if there is no such train", () -> {
            Edges.noSuchTrain((p, train) -> p.clean(train));
            Check.refused("without a tank", IndexOutOfBoundsException.class, MembranePlant::new, p -> p.clean(0));
        });
        Sentences.test(6, "Throws `IllegalStateException` if it is being cleaned", () -> {
            Edges.beingCleaned((p, train) -> p.clean(train));
            Check.refused("without water", IllegalStateException.class, () -> {
                MembranePlant plant = atLevel(20, 20);
                plant.clean(0);
                return plant;
            }, p -> p.clean(0));
        });
        Sentences.test(6, "Throws `UnsupportedOperationException` if there is no tank, or the level of the tank 0 is"
                + " less than the area of the train", TrainSentences::cleanWithoutWater);
    }

    /** A train of this area, and so much water in the tank 0; the tank 1 has plenty. */
    private static MembranePlant atLevel(int area, int level) {
        MembranePlant plant = new MembranePlant();
        plant.addTrain(area);
        plant.addTrain(20);
        plant.addTank(20);
        plant.addTank(2000);
        plant.setDemand(0, 0, 0, 20 - level);
        plant.pass(true);
        return plant;
    }

    private static void cleanWithoutWater() {
        Class<UnsupportedOperationException> kind = UnsupportedOperationException.class;
        Check.refused("no tank", kind, () -> {
            MembranePlant plant = new MembranePlant();
            plant.addTrain(1);
            plant.pass(true);
            return plant;
        }, p -> p.clean(0));
        Check.refused("area 1, empty", kind, () -> atLevel(1, 0), p -> p.clean(0));
        Check.refused("area 20, empty", kind, () -> atLevel(20, 0), p -> p.clean(0));
        Check.refused("area 20, one is missing", kind, () -> atLevel(20, 19), p -> p.clean(0));
        Check.refused("area 11, one is missing", kind, () -> atLevel(11, 10), p -> p.clean(0));
        int[][] enough = {{1, 1}, {1, 2}, {20, 20}, {11, 11}, {11, 12}, {1, 20}};
        for (int[] row : enough) {
            MembranePlant plant = atLevel(row[0], row[1]);
            String name = "area " + row[0] + ", level " + row[1];
            Check.dueInt(name, 2, plant.clean(0));
            Check.dueInt(name + ", afterwards", row[1] - row[0], plant.level(0));
        }
    }

    private static void readTrain() {
        String none = "Throws `IndexOutOfBoundsException` if there is no such train";
        Sentences.test(7, "Returns the fouling.", () -> {
            int[] foulings = {0, 1, 89, 90, 91};
            for (int fouling : foulings) {
                Check.dueInt("after " + fouling, Math.min(90, fouling), Plants.fouled(fouling).fouling(0));
            }
            Check.dueInt("being cleaned", 20, Plants.cleaned(2).fouling(0));
            Check.dueInt("cleaned", 5, Plants.cleaned(3).fouling(0));
        });
        Sentences.test(7, none, () -> Edges.noSuchTrain((p, train) -> p.fouling(train)));
        Sentences.test(8, "Returns the wear.", () -> {
            Check.dueInt("never cleaned", 0, Plants.fouled(20).wear(0));
            Check.dueInt("being cleaned", 0, Plants.cleaned(2).wear(0));
            Check.dueInt("cleaned", 1, Plants.cleaned(3).wear(0));
        });
        Sentences.test(8, none, () -> Edges.noSuchTrain((p, train) -> p.wear(train)));
        Sentences.test(9, "Returns the number of half hours, 0 if it is ready.", () -> {
            for (int i = 0; i < 4; i++) {
                Check.dueInt("ready", 0, Plants.fouled(i).cleaningLeft(0));
            }
            for (int i = 0; i <= 4; i++) {
                Check.dueInt("after " + i, Math.max(0, 3 - i), Plants.cleaned(i).cleaningLeft(0));
            }
        });
        Sentences.test(9, none, () -> Edges.noSuchTrain((p, train) -> p.cleaningLeft(train)));
    }

    private static void productOf() {
        Sentences.test(10, "Returns the product that a train would give if it ran for the present half hour.", () -> {
            MembranePlant plant = Plants.fouled(20);
            plant.order(20, false);
            Check.dueInt("ordered off", 10 * 20 * 80 / 500, plant.productOf(0));
            Check.dueInt("asked again", 32, plant.productOf(0));
            Check.dueInt("given", 32, plant.pass(true));
            // 10 * 20 * 79 / 500 = 31.6
            Check.dueInt("for the next one", 31, plant.productOf(0));
            plant.setPressure(0, 30);
            plant.setSalinity(35);
            Check.dueInt("none below the salinity", 0, plant.productOf(0));
        });
        Sentences.test(10, "Throws `IndexOutOfBoundsException` if there is no such train",
                () -> Edges.noSuchTrain((p, train) -> p.productOf(train)));
        Sentences.test(10, "Throws `IllegalStateException` if it is being cleaned",
                () -> Edges.beingCleaned((p, train) -> p.productOf(train)));
    }

    private static void energyOf() {
        Sentences.test(11, "Returns the energy that a train would take if it ran for the present half hour.", () -> {
            MembranePlant plant = Plants.small();
            plant.setPrice(0, 47, 0);
            plant.order(0, false);
            Check.dueInt("ordered off, at no price", 313, plant.energyOf(0));
            plant.pass(true);
            plant.setPrice(0, 47, 99);
            Check.dueInt("for the next one", 308, plant.energyOf(0));
            plant.setPressure(0, 30);
            plant.setSalinity(35);
            Check.dueInt("none below the salinity", 0, plant.energyOf(0));
        });
        Sentences.test(11, "Throws `IndexOutOfBoundsException` if there is no such train",
                () -> Edges.noSuchTrain((p, train) -> p.energyOf(train)));
        Sentences.test(11, "Throws `IllegalStateException` if it is being cleaned",
                () -> Edges.beingCleaned((p, train) -> p.energyOf(train)));
    }

    private static void readyTrains() {
        for (int i = 0; i <= 4; i++) {
            MembranePlant plant = Plants.withTrains(i);
            Check.dueInt("of " + i, i, plant.readyTrains());
            for (int train = 0; train < i; train++) {
                plant.clean(train);
                Check.dueInt("of " + i + " when " + (train + 1) + " are cleaned", i - 1 - train, plant.readyTrains());
            }
            plant.pass(true);
            Check.dueInt("of " + i + " in the last half hour", 0, plant.readyTrains());
            plant.pass(true);
            Check.dueInt("of " + i + ", cleaned", i, plant.readyTrains());
        }
    }
}
