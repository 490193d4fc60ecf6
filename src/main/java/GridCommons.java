/** An energy commons: what five owners use, get, buy and owe, quarter by quarter. */
public final class GridCommons {
    private static final int OWNERS = 5;
    private static final int QUARTERS = 60;
    private static final int MOST_SHARE = 4;
    private static final int MOST_FOURTHS = 4;
    private static final int MOST_USE = 50;
    private static final int MOST_SUN = 100;
    private static final int USES_IN_A_GUESS = 2;
    private static final int NOBODY = -1;
    private static final int LINE = 100;
    private static final int CAPACITY = 40;

    private final int[] shares = new int[OWNERS];
    private final boolean[] switches = new boolean[OWNERS];
    private final int[] timesShed = new int[OWNERS];
    private final double[] bills = new double[OWNERS];
    private final boolean[] isTold = new boolean[OWNERS];
    private final int[] toldUse = new int[OWNERS];
    private final Ledger ledger = new Ledger();
    private double price = 0.5;
    private double stored = 0.0;
    private int whoseTurn = 0;

    // These two only mean something while a quarter is closed; kept here so that no close makes new rows.
    private final double[] needs = new double[OWNERS];
    private double leftOver = 0.0;

    public GridCommons() {
        for (int owner = 0; owner < OWNERS; owner++) {
            switches[owner] = true;
        }
    }

    // ---- contracts

    public int setShare(int owner, int share) throws IllegalArgumentException, IllegalStateException {
        requireOwner(owner);
        requireWithin(share, 0, MOST_SHARE);
        int before = shares[owner];
        if (sumOfShares() - before + share > MOST_SHARE) {
            throw new IllegalStateException("all shares together would be more than 4");
        }
        shares[owner] = share;
        return before;
    }

    public boolean setSwitch(int owner, boolean can) throws IllegalArgumentException {
        requireOwner(owner);
        boolean before = switches[owner];
        switches[owner] = can;
        return before;
    }

    public double setPrice(int fourths) throws IllegalArgumentException {
        requireWithin(fourths, 1, MOST_FOURTHS);
        price = fourths / 4.0;
        return price;
    }

    // ---- quarters

    public boolean tell(int owner, int use) throws IllegalArgumentException {
        requireOwner(owner);
        requireWithin(use, 0, MOST_USE);
        boolean before = isTold[owner];
        isTold[owner] = true;
        toldUse[owner] = use;
        return before;
    }

    public boolean close(int sun) throws IllegalArgumentException, IllegalStateException {
        requireWithin(sun, 0, MOST_SUN);
        int quarter = ledger.count;
        if (quarter >= QUARTERS) {
            throw new IllegalStateException("60 quarters are closed");
        }
        ledger.price[quarter] = price;
        writeUses(quarter);
        shedUntilCarried();
        boolean overloaded = isOverLine();
        writeUsed(quarter);
        leftOver = sun;
        giveByShare(quarter, sun);
        giveByNeed(quarter);
        storeOrSell(quarter);
        if (leftOver == 0.0) {
            giveFromBattery(quarter);
        }
        writeBills(quarter);
        ledger.count = quarter + 1;
        return overloaded;
    }

    public int closed() {
        return ledger.count;
    }

    public double replace(int owner, int quarter, int use)
            throws IllegalArgumentException, IndexOutOfBoundsException, IllegalStateException {
        requireOwner(owner);
        requireWithin(use, 0, MOST_USE);
        requireQuarter(quarter);
        int slot = Ledger.slot(owner, quarter);
        if (ledger.known[slot]) {
            throw new IllegalStateException("the use was told, or the gap was replaced");
        }
        ledger.known[slot] = true;
        ledger.use[slot] = use;
        double change = (use - ledger.used[slot]) * ledger.price[quarter];
        bills[owner] += change;
        return change;
    }

    public double use(int owner, int quarter) throws IllegalArgumentException, IndexOutOfBoundsException {
        return ledger.use[closedSlot(owner, quarter)];
    }

    // ---- what came of it

    public double fromSun(int owner, int quarter) throws IllegalArgumentException, IndexOutOfBoundsException {
        return ledger.fromSun[closedSlot(owner, quarter)];
    }

    public double fromBattery(int owner, int quarter) throws IllegalArgumentException, IndexOutOfBoundsException {
        return ledger.fromBattery[closedSlot(owner, quarter)];
    }

    public double bought(int owner, int quarter) throws IllegalArgumentException, IndexOutOfBoundsException {
        return ledger.bought[closedSlot(owner, quarter)];
    }

    public double sold(int quarter) throws IndexOutOfBoundsException {
        requireQuarter(quarter);
        return ledger.sold[quarter];
    }

    public double battery() {
        return stored;
    }

    public int turn() {
        return whoseTurn;
    }

    public int sheds(int owner) throws IllegalArgumentException {
        requireOwner(owner);
        return timesShed[owner];
    }

    public double bill(int owner) throws IllegalArgumentException {
        requireOwner(owner);
        return bills[owner];
    }

    // What is asked of arguments.

    private static void requireWithin(int number, int least, int most) {
        if (number < least || number > most) {
            throw new IllegalArgumentException("a number is out of range");
        }
    }

    private static void requireOwner(int owner) {
        if (owner < 0 || owner >= OWNERS) {
            throw new IllegalArgumentException("owner is out of range");
        }
    }

    private void requireQuarter(int quarter) {
        if (quarter < 0 || quarter >= ledger.count) {
            throw new IndexOutOfBoundsException("there is no such quarter");
        }
    }

    private int closedSlot(int owner, int quarter) {
        requireOwner(owner);
        requireQuarter(quarter);
        return Ledger.slot(owner, quarter);
    }

    // The steps of closing a quarter, in the order in which close takes them.

    private void writeUses(int quarter) {
        for (int owner = 0; owner < OWNERS; owner++) {
            int slot = Ledger.slot(owner, quarter);
            double use = isTold[owner] ? toldUse[owner] : ledger.guess(owner);
            ledger.known[slot] = isTold[owner];
            ledger.use[slot] = use;
            needs[owner] = use;
            isTold[owner] = false;
        }
    }

    private void shedUntilCarried() {
        int owner = nextToShed();
        for (int round = 0; round < OWNERS && owner != NOBODY && isOverLine(); round++) {
            needs[owner] = 0.0;
            timesShed[owner]++;
            owner = nextToShed();
        }
    }

    private boolean isOverLine() {
        return sumOfNeeds() > LINE;
    }

    private int nextToShed() {
        int next = NOBODY;
        for (int owner = 0; owner < OWNERS; owner++) {
            boolean can = switches[owner] && needs[owner] > 0.0;
            if (can && (next == NOBODY || timesShed[owner] < timesShed[next])) {
                next = owner;
            }
        }
        return next;
    }

    private void writeUsed(int quarter) {
        for (int owner = 0; owner < OWNERS; owner++) {
            ledger.used[Ledger.slot(owner, quarter)] = needs[owner];
        }
    }

    private void giveByShare(int quarter, int sun) {
        for (int owner = 0; owner < OWNERS; owner++) {
            double units = lesser((double) sun * shares[owner] / 4.0, needs[owner]);
            giveSun(owner, quarter, units);
            leftOver -= units;
        }
    }

    private void giveByNeed(int quarter) {
        double sum = sumOfNeeds();
        if (sum == 0.0) {
            return;
        }
        if (sum <= leftOver) {
            leftOver -= sum;
            for (int owner = 0; owner < OWNERS; owner++) {
                giveSun(owner, quarter, needs[owner]);
            }
            return;
        }
        for (int owner = 0; owner < OWNERS; owner++) {
            giveSun(owner, quarter, leftOver * needs[owner] / sum);
        }
        leftOver = 0.0;
    }

    private void giveSun(int owner, int quarter, double units) {
        ledger.fromSun[Ledger.slot(owner, quarter)] += units;
        needs[owner] -= units;
    }

    // leftOver is not counted down here: whether the battery gives hangs on what was left over before this.
    private void storeOrSell(int quarter) {
        double room = CAPACITY - stored;
        if (leftOver < room) {
            stored += leftOver;
            ledger.sold[quarter] = 0.0;
        } else {
            stored = CAPACITY;
            ledger.sold[quarter] = leftOver - room;
        }
    }

    private void giveFromBattery(int quarter) {
        int last = NOBODY;
        int owner = whoseTurn;
        for (int round = 0; round < OWNERS; round++) {
            double units = lesser(needs[owner], stored);
            ledger.fromBattery[Ledger.slot(owner, quarter)] = units;
            needs[owner] -= units;
            stored -= units;
            if (units > 0.0) {
                last = owner;
            }
            owner = behind(owner);
        }
        if (last != NOBODY) {
            whoseTurn = behind(last);
        }
    }

    private void writeBills(int quarter) {
        double income = ledger.sold[quarter] * price / 10.0;
        for (int owner = 0; owner < OWNERS; owner++) {
            ledger.bought[Ledger.slot(owner, quarter)] = needs[owner];
            bills[owner] += needs[owner] * price;
            bills[owner] -= income;
        }
    }

    // Small sums.

    private int sumOfShares() {
        int sum = 0;
        for (int owner = 0; owner < OWNERS; owner++) {
            sum += shares[owner];
        }
        return sum;
    }

    private double sumOfNeeds() {
        double sum = 0.0;
        for (int owner = 0; owner < OWNERS; owner++) {
            sum += needs[owner];
        }
        return sum;
    }

    private static int behind(int owner) {
        return Math.floorMod(owner + 1, OWNERS);
    }

    private static double lesser(double one, double other) {
        return one < other ? one : other;
    }

    /** What is known of the quarters that are closed, a place for each owner in each quarter. */
    private static final class Ledger {
        int count = 0;
        final double[] price = new double[QUARTERS];
        final double[] sold = new double[QUARTERS];

        /** Told or replaced, otherwise the guess; a shed owner's too. */
        final double[] use = new double[QUARTERS * OWNERS];
        final boolean[] known = new boolean[QUARTERS * OWNERS];

        /** What the quarter was closed with: 0.0 for a shed owner, and never changed later. */
        final double[] used = new double[QUARTERS * OWNERS];
        final double[] fromSun = new double[QUARTERS * OWNERS];
        final double[] fromBattery = new double[QUARTERS * OWNERS];
        final double[] bought = new double[QUARTERS * OWNERS];

        static int slot(int owner, int quarter) {
            return quarter * OWNERS + owner;
        }

        double guess(int owner) {
            double sum = 0.0;
            int found = 0;
            for (int quarter = count - 1; quarter >= 0 && found < USES_IN_A_GUESS; quarter--) {
                int slot = slot(owner, quarter);
                if (known[slot]) {
                    sum += use[slot];
                    found++;
                }
            }
            return found == USES_IN_A_GUESS ? sum / 2.0 : sum;
        }
    }
}
