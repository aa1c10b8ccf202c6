import java.util.Arrays;
import java.util.NoSuchElementException;

/** A desalination plant that is run half hour by half hour; the document numbers its promises. */
public final class MembranePlant {
    private static final int MAX_TRAINS = 4;
    private static final int MAX_TANKS = 3;
    private static final int SLOTS = 48;
    private static final int MAX_ORDERS = 6;
    private static final int MAX_HORIZON = 6;
    private static final int MAX_RUN = 12;

    private static final int MIN_AREA = 1;
    private static final int MAX_AREA = 20;
    private static final int MIN_PRESSURE = 30;
    private static final int MAX_PRESSURE = 70;
    private static final int MIN_SALINITY = 20;
    private static final int MAX_SALINITY = 35;
    private static final int MIN_RECOVERY = 30;
    private static final int MAX_RECOVERY = 60;
    private static final int MIN_CAPACITY = 1;
    private static final int MAX_CAPACITY = 2000;
    private static final int MAX_DEMAND = 200;
    private static final int MAX_PRICE = 99;
    private static final int MAX_FOULING = 90;
    private static final int MAX_WEAR = 20;

    private static final int FREE = -1;
    private static final int OFF = 0;
    private static final int ON = 1;

    /** Far above what six half hours can cost, so that every real cost is less. */
    private static final int NO_COST = 1_000_000_000;

    private final Settings settings;
    private final State state;
    private final Orders orders;
    private final Planner planner;
    private final Meters meters;
    private int horizon;
    private int present;

    public MembranePlant() {
        settings = new Settings();
        state = new State();
        orders = new Orders();
        planner = new Planner(settings, orders);
        meters = new Meters();
        horizon = 4;
        present = 0;
    }

    // ---- trains and sea

    public int addTrain(int area) throws IllegalArgumentException, IllegalStateException {
        checkRange(area, MIN_AREA, MAX_AREA);
        if (settings.trains >= MAX_TRAINS) {
            throw new IllegalStateException("there are 4 trains");
        }
        int train = settings.trains;
        settings.areas[train] = area;
        settings.pressures[train] = 50;
        settings.trains = train + 1;
        return train;
    }

    public int setPressure(int train, int pressure) throws IndexOutOfBoundsException, IllegalArgumentException {
        checkTrain(train);
        checkRange(pressure, MIN_PRESSURE, MAX_PRESSURE);
        int before = settings.pressures[train];
        settings.pressures[train] = pressure;
        return before;
    }

    public int setSalinity(int salinity) throws IllegalArgumentException {
        checkRange(salinity, MIN_SALINITY, MAX_SALINITY);
        int before = settings.salinity;
        settings.salinity = salinity;
        return before;
    }

    public int setRecovery(int percent) throws IllegalArgumentException {
        checkRange(percent, MIN_RECOVERY, MAX_RECOVERY);
        int before = settings.recovery;
        settings.recovery = percent;
        return before;
    }

    public int clean(int train)
            throws IndexOutOfBoundsException, IllegalStateException, UnsupportedOperationException {
        checkTrain(train);
        checkReady(train);
        int water = settings.areas[train];
        if (settings.tanks == 0 || state.levels[0] < water) {
            throw new UnsupportedOperationException("too little water in the tank 0");
        }
        state.levels[0] -= water;
        meters.cleaned += water;
        state.left[train] = 2 + state.fouling[train] / 20;
        return state.left[train];
    }

    public int fouling(int train) throws IndexOutOfBoundsException {
        checkTrain(train);
        return state.fouling[train];
    }

    public int wear(int train) throws IndexOutOfBoundsException {
        checkTrain(train);
        return state.wear[train];
    }

    public int cleaningLeft(int train) throws IndexOutOfBoundsException {
        checkTrain(train);
        return state.left[train];
    }

    public int productOf(int train) throws IndexOutOfBoundsException, IllegalStateException {
        checkTrain(train);
        checkReady(train);
        return settings.productAt(train, state.fouling[train]);
    }

    public int energyOf(int train) throws IndexOutOfBoundsException, IllegalStateException {
        checkTrain(train);
        checkReady(train);
        int made = settings.productAt(train, state.fouling[train]);
        return settings.energyFor(train, settings.feedFor(made));
    }

    public int readyTrains() {
        int ready = 0;
        for (int i = 0; i < settings.trains; i++) {
            if (state.left[i] == 0) {
                ready++;
            }
        }
        return ready;
    }

    // ---- tanks and tables

    public int addTank(int capacity) throws IllegalArgumentException, IllegalStateException {
        checkRange(capacity, MIN_CAPACITY, MAX_CAPACITY);
        if (settings.tanks >= MAX_TANKS) {
            throw new IllegalStateException("there are 3 tanks");
        }
        int tank = settings.tanks;
        settings.capacities[tank] = capacity;
        settings.tanks = tank + 1;
        return tank;
    }

    public int setDemand(int tank, int first, int last, int demand)
            throws IndexOutOfBoundsException, IllegalArgumentException {
        checkTank(tank);
        checkSlots(first, last);
        checkRange(demand, 0, MAX_DEMAND);
        return fillSlots(settings.demands[tank], first, last, demand);
    }

    public int setPrice(int first, int last, int price) throws IllegalArgumentException {
        checkSlots(first, last);
        checkRange(price, 0, MAX_PRICE);
        return fillSlots(settings.prices, first, last, price);
    }

    public int demand(int tank, int slot) throws IndexOutOfBoundsException, IllegalArgumentException {
        checkTank(tank);
        checkRange(slot, 0, SLOTS - 1);
        return settings.demands[tank][slot];
    }

    public int level(int tank) throws IndexOutOfBoundsException {
        checkTank(tank);
        return state.levels[tank];
    }

    public int shortOf(int tank) throws IndexOutOfBoundsException {
        checkTank(tank);
        return meters.shorts[tank];
    }

    // ---- half hours

    public int pass(boolean isOn) {
        passPresent(isOn);
        return state.product;
    }

    public int run(int halfHours) throws IllegalArgumentException {
        checkRange(halfHours, 1, MAX_RUN);
        int on = 0;
        for (int i = 0; i < halfHours; i++) {
            int told = orders.told(present);
            if (told == FREE) {
                planner.findBest(state, present, horizon);
                told = planner.leastCost < NO_COST ? planner.toldBy(planner.best, 0) : ON;
            }
            passPresent(told == ON);
            on += told;
        }
        return on;
    }

    public int setHorizon(int halfHours) throws IllegalArgumentException {
        checkRange(halfHours, 1, MAX_HORIZON);
        int before = horizon;
        horizon = halfHours;
        return before;
    }

    public int order(int halfHour, boolean isOn) throws IllegalArgumentException, IllegalStateException {
        if (halfHour < present) {
            throw new IllegalArgumentException("the half hour has passed");
        }
        if (orders.told(halfHour) == FREE && orders.count >= MAX_ORDERS) {
            throw new IllegalStateException("there are 6 orders");
        }
        orders.put(halfHour, isOn ? ON : OFF);
        return orders.count;
    }

    public boolean takeBack(int halfHour) throws NoSuchElementException {
        int told = orders.told(halfHour);
        if (told == FREE) {
            throw new NoSuchElementException("the half hour has no order");
        }
        orders.forget(halfHour);
        return told == ON;
    }

    public int halfHour() {
        return present;
    }

    // ---- schedules

    public int bestCost(int halfHours) throws IllegalArgumentException, NoSuchElementException {
        checkRange(halfHours, 1, MAX_HORIZON);
        planner.findBest(state, present, halfHours);
        checkAllowed(planner.leastCost);
        return planner.leastCost;
    }

    public int bestCostByTrying(int halfHours) throws IllegalArgumentException, NoSuchElementException {
        checkRange(halfHours, 1, MAX_HORIZON);
        planner.begin(state, present, halfHours);
        int least = NO_COST;
        for (int schedule = 0; schedule < 1 << halfHours; schedule++) {
            least = Math.min(least, planner.costOf(schedule));
        }
        checkAllowed(least);
        return least;
    }

    public boolean isOnInBest(int halfHours, int index)
            throws IllegalArgumentException, IndexOutOfBoundsException, NoSuchElementException {
        checkRange(halfHours, 1, MAX_HORIZON);
        if (index < 0 || index >= halfHours) {
            throw new IndexOutOfBoundsException("no such half hour in the schedule");
        }
        planner.findBest(state, present, halfHours);
        checkAllowed(planner.leastCost);
        return planner.toldBy(planner.best, index) == ON;
    }

    public int allowedSchedules(int halfHours) throws IllegalArgumentException {
        checkRange(halfHours, 1, MAX_HORIZON);
        planner.begin(state, present, halfHours);
        int allowed = 0;
        for (int schedule = 0; schedule < 1 << halfHours; schedule++) {
            if (planner.costOf(schedule) < NO_COST) {
                allowed++;
            }
        }
        return allowed;
    }

    // ---- meters

    public long feed() {
        return meters.feed;
    }

    public long product() {
        return meters.product;
    }

    public long brine() {
        return meters.brine;
    }

    public long spilled() {
        return meters.spilled;
    }

    public long spilledByBalance() {
        long kept = 0;
        for (int i = 0; i < settings.tanks; i++) {
            kept += state.levels[i];
        }
        return meters.product - meters.served - meters.cleaned - kept;
    }

    public long cost() {
        return meters.cost;
    }

    public boolean isBalanced() {
        return meters.feed == meters.product + meters.brine && meters.spilled == spilledByBalance();
    }

    public float servedShare() throws ArithmeticException {
        if (meters.demanded == 0) {
            throw new ArithmeticException("nothing was demanded");
        }
        return (float) meters.served / (float) meters.demanded;
    }

    public double meanCost() throws ArithmeticException {
        if (present == 0) {
            throw new ArithmeticException("no half hour has passed");
        }
        return (double) meters.cost / (double) present;
    }

    // ---- what the calls share

    private static void checkRange(int value, int least, int most) {
        if (value < least || value > most) {
            throw new IllegalArgumentException("out of range");
        }
    }

    private static void checkSlots(int first, int last) {
        checkRange(first, 0, SLOTS - 1);
        checkRange(last, first, SLOTS - 1);
    }

    private static void checkAllowed(int leastCost) {
        if (leastCost >= NO_COST) {
            throw new NoSuchElementException("no schedule is allowed");
        }
    }

    private void checkTrain(int train) {
        if (train < 0 || train >= settings.trains) {
            throw new IndexOutOfBoundsException("no such train");
        }
    }

    private void checkReady(int train) {
        if (state.left[train] > 0) {
            throw new IllegalStateException("the train is being cleaned");
        }
    }

    private void checkTank(int tank) {
        if (tank < 0 || tank >= settings.tanks) {
            throw new IndexOutOfBoundsException("no such tank");
        }
    }

    /** Answers the sum of all slots after the filling. */
    private static int fillSlots(int[] table, int first, int last, int value) {
        int sum = 0;
        for (int slot = 0; slot < table.length; slot++) {
            if (slot >= first && slot <= last) {
                table[slot] = value;
            }
            sum += table[slot];
        }
        return sum;
    }

    private static int slotOf(int halfHour) {
        return Math.floorMod(halfHour, SLOTS);
    }

    private void passPresent(boolean isOn) {
        state.letPass(settings, slotOf(present), isOn);
        meters.add(state);
        orders.forget(present);
        present++;
    }

    /** What the operator sets and a passing half hour only reads. */
    private static final class Settings {
        final int[] areas = new int[MAX_TRAINS];
        final int[] pressures = new int[MAX_TRAINS];
        final int[] capacities = new int[MAX_TANKS];
        final int[][] demands = new int[MAX_TANKS][SLOTS];
        final int[] prices = new int[SLOTS];
        int trains;
        int tanks;
        int salinity;
        int recovery;

        Settings() {
            Arrays.fill(prices, 1);
            salinity = 25;
            recovery = 40;
        }

        int productAt(int train, int fouling) {
            if (pressures[train] < salinity) {
                return 0;
            }
            return areas[train] * (pressures[train] - salinity) * (100 - fouling) / 500;
        }

        int feedFor(int product) {
            if (recovery <= 0) {
                return 0;
            }
            return (product * 100 + recovery - 1) / recovery;
        }

        int energyFor(int train, int feed) {
            return (feed * pressures[train] + 19) / 20;
        }

        int foulingStep(int train) {
            if (pressures[train] <= 45) {
                return 1;
            }
            return pressures[train] <= 55 ? 2 : 3;
        }
    }

    /** What changes when a half hour passes, and the sums of the one that passed last. */
    private static final class State {
        final int[] fouling = new int[MAX_TRAINS];
        final int[] wear = new int[MAX_TRAINS];
        final int[] left = new int[MAX_TRAINS];
        final int[] levels = new int[MAX_TANKS];
        final int[] missing = new int[MAX_TANKS];
        int product;
        int feed;
        int brine;
        int cost;
        int spilled;
        int served;
        int demanded;
        int lacking;

        void copy(State other) {
            System.arraycopy(other.fouling, 0, fouling, 0, MAX_TRAINS);
            System.arraycopy(other.wear, 0, wear, 0, MAX_TRAINS);
            System.arraycopy(other.left, 0, left, 0, MAX_TRAINS);
            System.arraycopy(other.levels, 0, levels, 0, MAX_TANKS);
        }

        void letPass(Settings settings, int slot, boolean isOn) {
            product = 0;
            feed = 0;
            brine = 0;
            int energy = 0;
            for (int i = 0; i < settings.trains; i++) {
                if (left[i] > 0) {
                    goOnCleaning(i);
                } else if (isOn) {
                    energy += runTrain(settings, i);
                }
            }
            cost = energy * settings.prices[slot];
            pour(settings);
            serve(settings, slot);
        }

        private void goOnCleaning(int train) {
            left[train]--;
            if (left[train] == 0) {
                fouling[train] = fouling[train] / 4 + wear[train];
                wear[train] = Math.min(MAX_WEAR, wear[train] + 1);
            }
        }

        /** Answers the energy that the train takes. */
        private int runTrain(Settings settings, int train) {
            int made = settings.productAt(train, fouling[train]);
            int taken = settings.feedFor(made);
            product += made;
            feed += taken;
            brine += taken - made;
            fouling[train] = Math.min(MAX_FOULING, fouling[train] + settings.foulingStep(train));
            return settings.energyFor(train, taken);
        }

        private void pour(Settings settings) {
            int rest = product;
            for (int i = 0; i < settings.tanks; i++) {
                int poured = Math.min(rest, settings.capacities[i] - levels[i]);
                levels[i] += poured;
                rest -= poured;
            }
            spilled = rest;
        }

        private void serve(Settings settings, int slot) {
            served = 0;
            demanded = 0;
            for (int i = 0; i < settings.tanks; i++) {
                int wanted = settings.demands[i][slot];
                int given = Math.min(wanted, levels[i]);
                levels[i] -= given;
                missing[i] = wanted - given;
                served += given;
                demanded += wanted;
            }
            lacking = demanded - served;
        }
    }

    /** The orders, in no particular order: nobody asks for their sequence. */
    private static final class Orders {
        final int[] halfHours = new int[MAX_ORDERS];
        final int[] tells = new int[MAX_ORDERS];
        int count;

        /** Answers FREE if the half hour has no order. */
        int told(int halfHour) {
            int at = find(halfHour);
            return at < 0 ? FREE : tells[at];
        }

        void put(int halfHour, int told) {
            int at = find(halfHour);
            if (at < 0) {
                if (count >= MAX_ORDERS) {
                    return;
                }
                at = count;
                halfHours[at] = halfHour;
                count++;
            }
            tells[at] = told;
        }

        void forget(int halfHour) {
            int at = find(halfHour);
            if (at >= 0) {
                count--;
                halfHours[at] = halfHours[count];
                tells[at] = tells[count];
            }
        }

        private int find(int halfHour) {
            for (int i = 0; i < count; i++) {
                if (halfHours[i] == halfHour) {
                    return i;
                }
            }
            return -1;
        }
    }

    /**
     * Looks for schedules. A schedule is a number with one bit for each half hour, the first one
     * highest, so that of two schedules the one that is off where they first differ is less.
     */
    private static final class Planner {
        private final Settings settings;
        private final Orders orders;
        // Row 0 is the plant as it is, row n the plant after n half hours: made once for all searches.
        private final State[] rows = new State[MAX_HORIZON + 1];
        private final int[] told = new int[MAX_HORIZON];
        private final int[] slots = new int[MAX_HORIZON];
        private int length;
        int best;
        int leastCost;

        Planner(Settings settings, Orders orders) {
            this.settings = settings;
            this.orders = orders;
            for (int i = 0; i <= MAX_HORIZON; i++) {
                rows[i] = new State();
            }
        }

        void begin(State state, int present, int halfHours) {
            rows[0].copy(state);
            length = Math.min(halfHours, MAX_HORIZON);
            for (int i = 0; i < length; i++) {
                told[i] = orders.told(present + i);
                slots[i] = slotOf(present + i);
            }
        }

        /** Leaves the best schedule and its cost in the fields; the cost is NO_COST if there is none. */
        void findBest(State state, int present, int halfHours) {
            begin(state, present, halfHours);
            best = 0;
            leastCost = NO_COST;
            search(this, 0, 0, 0);
        }

        int toldBy(int schedule, int index) {
            return (schedule >> (length - 1 - index)) & 1;
        }

        /** Answers NO_COST if the schedule is not allowed. */
        int costOf(int schedule) {
            int cost = 0;
            for (int i = 0; i < length; i++) {
                int next = toldBy(schedule, i);
                if (!isAsOrdered(i, next) || !canPass(i, next)) {
                    return NO_COST;
                }
                cost += rows[i + 1].cost;
            }
            return cost;
        }

        // Off is tried first and only less cost replaces the best: so of several it stays the one
        // that is off where they first differ, and a beginning that costs as much can be given up.
        private static void search(Planner planner, int depth, int schedule, int cost) {
            if (cost >= planner.leastCost) {
                return;
            }
            if (depth >= planner.length) {
                planner.best = schedule;
                planner.leastCost = cost;
                return;
            }
            for (int next = OFF; next <= ON; next++) {
                if (planner.isAsOrdered(depth, next) && planner.canPass(depth, next)) {
                    search(planner, depth + 1, schedule * 2 + next, cost + planner.rows[depth + 1].cost);
                }
            }
        }

        private boolean isAsOrdered(int index, int next) {
            return told[index] == FREE || told[index] == next;
        }

        /** Lets the half hour pass from its row into the next row; answers whether nothing was short. */
        private boolean canPass(int index, int next) {
            State after = rows[index + 1];
            after.copy(rows[index]);
            after.letPass(settings, slots[index], next == ON);
            return after.lacking == 0;
        }
    }

    /** The sums over all half hours that have passed. */
    private static final class Meters {
        final int[] shorts = new int[MAX_TANKS];
        long feed;
        long product;
        long brine;
        long spilled;
        long cost;
        long served;
        long demanded;
        long cleaned;

        void add(State passed) {
            feed += passed.feed;
            product += passed.product;
            brine += passed.brine;
            spilled += passed.spilled;
            cost += passed.cost;
            served += passed.served;
            demanded += passed.demanded;
            for (int i = 0; i < MAX_TANKS; i++) {
                shorts[i] += passed.missing[i];
            }
        }
    }
}
