import java.util.ArrayList;
import java.util.List;
import java.util.NoSuchElementException;
import java.util.TreeMap;

/** The document once more, as plainly as may be and with the Java library: to compare with. */
final class PlantModel {
    private static final class Train {
        int area;
        int pressure = 50;
        int fouling;
        int wear;
        int left;
    }

    private static final class Tank {
        int capacity;
        int level;
        int missed;
        int[] demands = new int[48];
    }

    private final List<Train> trains = new ArrayList<>();
    private final List<Tank> tanks = new ArrayList<>();
    private TreeMap<Integer, Boolean> orders = new TreeMap<>();
    private int[] prices = new int[48];
    private int salinity = 25;
    private int recovery = 40;
    private int horizon = 4;
    private int present;
    private long feed;
    private long product;
    private long brine;
    private long spilled;
    private long cost;
    private long served;
    private long demanded;
    private long cleaned;

    PlantModel() {
        java.util.Arrays.fill(prices, 1);
    }

    private PlantModel copy() {
        PlantModel copy = new PlantModel();
        for (Train train : trains) {
            Train other = new Train();
            other.area = train.area;
            other.pressure = train.pressure;
            other.fouling = train.fouling;
            other.wear = train.wear;
            other.left = train.left;
            copy.trains.add(other);
        }
        for (Tank tank : tanks) {
            Tank other = new Tank();
            other.capacity = tank.capacity;
            other.level = tank.level;
            other.demands = tank.demands;
            copy.tanks.add(other);
        }
        copy.prices = prices;
        copy.salinity = salinity;
        copy.recovery = recovery;
        copy.present = present;
        return copy;
    }

    private Train train(int number) {
        if (number < 0 || number >= trains.size()) {
            throw new IndexOutOfBoundsException();
        }
        return trains.get(number);
    }

    private Train ready(int number) {
        Train train = train(number);
        if (train.left > 0) {
            throw new IllegalStateException();
        }
        return train;
    }

    private Tank tank(int number) {
        if (number < 0 || number >= tanks.size()) {
            throw new IndexOutOfBoundsException();
        }
        return tanks.get(number);
    }

    private static void within(boolean isWithin) {
        if (!isWithin) {
            throw new IllegalArgumentException();
        }
    }

    private static int up(int dividend, int divisor) {
        return dividend % divisor == 0 ? dividend / divisor : dividend / divisor + 1;
    }

    private int productOf(Train train) {
        int difference = Math.max(0, train.pressure - salinity);
        return train.area * difference * (100 - train.fouling) / 500;
    }

    private int feedOf(Train train) {
        return up(productOf(train) * 100, recovery);
    }

    private int energyOf(Train train) {
        return up(feedOf(train) * train.pressure, 20);
    }

    int addTrain(int area) {
        within(area >= 1 && area <= 20);
        if (trains.size() == 4) {
            throw new IllegalStateException();
        }
        Train train = new Train();
        train.area = area;
        trains.add(train);
        return trains.size() - 1;
    }

    int setPressure(int number, int pressure) {
        Train train = train(number);
        within(pressure >= 30 && pressure <= 70);
        int before = train.pressure;
        train.pressure = pressure;
        return before;
    }

    int setSalinity(int value) {
        within(value >= 20 && value <= 35);
        int before = salinity;
        salinity = value;
        return before;
    }

    int setRecovery(int percent) {
        within(percent >= 30 && percent <= 60);
        int before = recovery;
        recovery = percent;
        return before;
    }

    int clean(int number) {
        Train train = ready(number);
        if (tanks.isEmpty() || tanks.get(0).level < train.area) {
            throw new UnsupportedOperationException();
        }
        tanks.get(0).level -= train.area;
        cleaned += train.area;
        train.left = 2 + train.fouling / 20;
        return train.left;
    }

    int fouling(int number) {
        return train(number).fouling;
    }

    int wear(int number) {
        return train(number).wear;
    }

    int cleaningLeft(int number) {
        return train(number).left;
    }

    int productOf(int number) {
        return productOf(ready(number));
    }

    int energyOf(int number) {
        return energyOf(ready(number));
    }

    int readyTrains() {
        return (int) trains.stream().filter(train -> train.left == 0).count();
    }

    int addTank(int capacity) {
        within(capacity >= 1 && capacity <= 2000);
        if (tanks.size() == 3) {
            throw new IllegalStateException();
        }
        Tank tank = new Tank();
        tank.capacity = capacity;
        tanks.add(tank);
        return tanks.size() - 1;
    }

    private static int set(int[] table, int first, int last, int value) {
        for (int i = first; i <= last; i++) {
            table[i] = value;
        }
        return java.util.Arrays.stream(table).sum();
    }

    int setDemand(int number, int first, int last, int demand) {
        Tank tank = tank(number);
        within(first >= 0 && last >= first && last <= 47 && demand >= 0 && demand <= 200);
        return set(tank.demands, first, last, demand);
    }

    int setPrice(int first, int last, int price) {
        within(first >= 0 && last >= first && last <= 47 && price >= 0 && price <= 99);
        return set(prices, first, last, price);
    }

    int demand(int number, int slot) {
        Tank tank = tank(number);
        within(slot >= 0 && slot <= 47);
        return tank.demands[slot];
    }

    int level(int number) {
        return tank(number).level;
    }

    int shortOf(int number) {
        return tank(number).missed;
    }

    int pass(boolean isOn) {
        int made = 0;
        int energy = 0;
        for (Train train : trains) {
            if (train.left > 0) {
                train.left--;
                if (train.left == 0) {
                    train.fouling = train.fouling / 4 + train.wear;
                    train.wear = train.wear == 20 ? 20 : train.wear + 1;
                }
                continue;
            }
            if (isOn) {
                made += productOf(train);
                feed += feedOf(train);
                brine += feedOf(train) - productOf(train);
                energy += energyOf(train);
                int step = train.pressure > 55 ? 3 : train.pressure > 45 ? 2 : 1;
                train.fouling = Math.min(90, train.fouling + step);
            }
        }
        int rest = made;
        for (Tank tank : tanks) {
            while (rest > 0 && tank.level < tank.capacity) {
                rest--;
                tank.level++;
            }
        }
        for (Tank tank : tanks) {
            int wanted = tank.demands[present % 48];
            int given = Math.min(wanted, tank.level);
            tank.level -= given;
            tank.missed += wanted - given;
            served += given;
            demanded += wanted;
        }
        product += made;
        spilled += rest;
        cost += (long) energy * prices[present % 48];
        orders.remove(present);
        present++;
        return made;
    }

    int run(int halfHours) {
        within(halfHours >= 1 && halfHours <= 12);
        int on = 0;
        for (int i = 0; i < halfHours; i++) {
            Boolean ordered = orders.get(present);
            boolean isOn = true;
            if (ordered != null) {
                isOn = ordered;
            } else {
                List<Boolean> best = best(horizon);
                isOn = best == null || best.get(0);
            }
            on += isOn ? 1 : 0;
            pass(isOn);
        }
        return on;
    }

    int setHorizon(int halfHours) {
        within(halfHours >= 1 && halfHours <= 6);
        int before = horizon;
        horizon = halfHours;
        return before;
    }

    int order(int halfHour, boolean isOn) {
        within(halfHour >= present);
        if (!orders.containsKey(halfHour) && orders.size() == 6) {
            throw new IllegalStateException();
        }
        orders.put(halfHour, isOn);
        return orders.size();
    }

    boolean takeBack(int halfHour) {
        if (!orders.containsKey(halfHour)) {
            throw new NoSuchElementException();
        }
        return orders.remove(halfHour);
    }

    int halfHour() {
        return present;
    }

    /** The cost of a schedule, or -1 if it is not allowed. */
    private long costOf(List<Boolean> schedule) {
        PlantModel other = copy();
        for (int i = 0; i < schedule.size(); i++) {
            Boolean ordered = orders.get(present + i);
            if (ordered != null && !ordered.equals(schedule.get(i))) {
                return -1;
            }
            other.pass(schedule.get(i));
        }
        for (Tank tank : other.tanks) {
            if (tank.missed > 0) {
                return -1;
            }
        }
        return other.cost;
    }

    private List<List<Boolean>> schedules(int halfHours) {
        List<List<Boolean>> all = new ArrayList<>();
        all.add(List.of());
        for (int i = 0; i < halfHours; i++) {
            List<List<Boolean>> longer = new ArrayList<>();
            for (List<Boolean> one : all) {
                for (boolean isOn : new boolean[] {false, true}) {
                    List<Boolean> next = new ArrayList<>(one);
                    next.add(isOn);
                    longer.add(next);
                }
            }
            all = longer;
        }
        return all;
    }

    private static boolean isOffFirst(List<Boolean> one, List<Boolean> other) {
        for (int i = 0; i < one.size(); i++) {
            if (!one.get(i).equals(other.get(i))) {
                return !one.get(i);
            }
        }
        return false;
    }

    /** The best schedule, or null if there is none. */
    private List<Boolean> best(int halfHours) {
        List<Boolean> best = null;
        long least = -1;
        for (List<Boolean> one : schedules(halfHours)) {
            long price = costOf(one);
            boolean isBetter = price >= 0
                    && (best == null || price < least || price == least && isOffFirst(one, best));
            if (isBetter) {
                best = one;
                least = price;
            }
        }
        return best;
    }

    private List<Boolean> someBest(int halfHours) {
        List<Boolean> best = best(halfHours);
        if (best == null) {
            throw new NoSuchElementException();
        }
        return best;
    }

    int bestCost(int halfHours) {
        within(halfHours >= 1 && halfHours <= 6);
        return (int) costOf(someBest(halfHours));
    }

    int bestCostByTrying(int halfHours) {
        return bestCost(halfHours);
    }

    boolean isOnInBest(int halfHours, int index) {
        within(halfHours >= 1 && halfHours <= 6);
        if (index < 0 || index >= halfHours) {
            throw new IndexOutOfBoundsException();
        }
        return someBest(halfHours).get(index);
    }

    int allowedSchedules(int halfHours) {
        within(halfHours >= 1 && halfHours <= 6);
        return (int) schedules(halfHours).stream().filter(one -> costOf(one) >= 0).count();
    }

    long feed() {
        return feed;
    }

    long product() {
        return product;
    }

    long brine() {
        return brine;
    }

    long spilled() {
        return spilled;
    }

    long spilledByBalance() {
        return product - served - cleaned - tanks.stream().mapToLong(tank -> tank.level).sum();
    }

    long cost() {
        return cost;
    }

    boolean isBalanced() {
        return feed == product + brine && spilled == spilledByBalance();
    }

    float servedShare() {
        if (demanded == 0) {
            throw new ArithmeticException();
        }
        return (float) served / (float) demanded;
    }

    double meanCost() {
        if (present == 0) {
            throw new ArithmeticException();
        }
        return (double) cost / (double) present;
    }
}
