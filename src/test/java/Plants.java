/** Plants that several tests begin with. */
final class Plants {
    private Plants() {
    }

    /** Trains of the areas 10 and 5, tanks of 100 and 60, an order, and three half hours gone. */
    static MembranePlant busy() {
        MembranePlant plant = new MembranePlant();
        plant.addTrain(10);
        plant.addTrain(5);
        plant.setPressure(1, 60);
        plant.addTank(100);
        plant.addTank(60);
        plant.setDemand(0, 0, 47, 10);
        plant.setDemand(1, 4, 20, 12);
        plant.setPrice(3, 6, 7);
        plant.setSalinity(26);
        plant.setRecovery(41);
        plant.setHorizon(3);
        plant.pass(true);
        plant.pass(true);
        plant.pass(false);
        plant.order(5, false);
        plant.order(8, true);
        return plant;
    }

    /** The busy plant with as many trains, tanks and orders as there may be, train 1 being cleaned. */
    static MembranePlant full() {
        MembranePlant plant = busy();
        plant.addTrain(20);
        plant.addTrain(1);
        plant.addTank(2000);
        plant.order(6, true);
        plant.order(7, true);
        plant.order(9, false);
        plant.order(10, false);
        plant.clean(1);
        return plant;
    }

    /** One train, whose product is 50 and then less, with one tank. */
    static MembranePlant small() {
        MembranePlant plant = new MembranePlant();
        plant.addTrain(10);
        plant.addTank(100);
        return plant;
    }
}
