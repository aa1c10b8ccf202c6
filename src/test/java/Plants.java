/** Plants that several tests begin with. */
final class Plants {
    private Plants() {
    }

    /** Trains of the areas 10 and 5, tanks of 100 and 60, an order, and three half hours gone. */
    static MembranePlant busy() {
        MembranePlant plant = new MembranePlant();
        plant.addTrain(10);
        plant.addTrain(5);
        plant.setPressure(1, 60);
        plant.addTank(100);
        plant.addTank(60);
        plant.setDemand(0, 0, 47, 10);
        plant.setDemand(1, 4, 20, 12);
        plant.setPrice(3, 6, 7);
        plant.setSalinity(26);
        plant.setRecovery(41);
        plant.setHorizon(3);
        plant.pass(true);
        plant.pass(true);
        plant.pass(false);
        plant.order(5, false);
        plant.order(8, true);
        return plant;
    }

    /** The busy plant with as many trains, tanks and orders as there may be, train 1 being cleaned. */
    static MembranePlant full() {
        MembranePlant plant = busy();
        plant.addTrain(20);
        plant.addTrain(1);
        plant.addTank(2000);
        plant.order(6, true);
        plant.order(7, true);
        plant.order(9, false);
        plant.order(10, false);
        plant.clean(1);
        return plant;
    }

    /** One train, whose product is 50 and then less, with one tank. */
    static MembranePlant small() {
        MembranePlant plant = new MembranePlant();
        plant.addTrain(10);
        plant.addTank(100);
        return plant;
    }

    /** So many trains of the area 10, one tank, and the half hour 0 gone with them on. */
    static MembranePlant withTrains(int count) {
        MembranePlant plant = new MembranePlant();
        for (int i = 0; i < count; i++) {
            plant.addTrain(10);
        }
        plant.addTank(2000);
        plant.pass(true);
        return plant;
    }

    /** So many tanks of 30, 31 and 32, and the half hour 0 gone with one train on. */
    static MembranePlant withTanks(int count) {
        MembranePlant plant = new MembranePlant();
        plant.addTrain(10);
        for (int i = 0; i < count; i++) {
            plant.addTank(30 + i);
            plant.setDemand(i, 1, 40, 2 + i);
        }
        plant.pass(true);
        return plant;
    }

    /** The small plant after as many half hours as make this fouling, its pressure 45. */
    static MembranePlant fouled(int fouling) {
        MembranePlant plant = small();
        plant.setPressure(0, 45);
        for (int i = 0; i < fouling; i++) {
            plant.pass(true);
        }
        return plant;
    }

    /** A train whose cleaning takes 3 half hours, so many of which have passed. */
    static MembranePlant cleaned(int passed) {
        MembranePlant plant = fouled(20);
        plant.clean(0);
        for (int i = 0; i < passed; i++) {
            plant.pass(true);
        }
        return plant;
    }

    /** More is demanded in this half hour than there can be, and nothing in the others. */
    static MembranePlant shortAt(int halfHour) {
        MembranePlant plant = small();
        plant.setDemand(0, halfHour, halfHour, 101);
        return plant;
    }

    /** Whatever is asked of it for some half hours, no schedule is allowed. */
    static MembranePlant thirsty() {
        MembranePlant plant = busy();
        plant.setDemand(0, 0, 47, 200);
        return plant;
    }
}
