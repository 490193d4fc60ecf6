import java.util.Random;

/**
 * Long runs of calls of every kind, with wrong arguments among them. Beside each run the test keeps what was
 * told, and weighs every closed quarter: what the sun gave must be somewhere, and so must what each owner used.
 */
public final class LongRunsTest {
    private static final int RUNS = 400;
    private static final int CALLS = 512;
    private static final int UNKNOWN = -1;

    private static final Checks checks = new Checks("LongRunsTest");

    private final Random random;
    private final GridCommons grid = new GridCommons();
    private final boolean wrongArguments;
    private final int[] shares = new int[5];
    private final boolean[] switches = {true, true, true, true, true};
    private final int[] told = {UNKNOWN, UNKNOWN, UNKNOWN, UNKNOWN, UNKNOWN};
    private final int[][] known = new int[60][5];
    private final double[][] used = new double[60][5];
    private final double[][] guesses = new double[60][5];
    private final double[] prices = new double[60];
    private final double[] bills = new double[5];
    private double price = 0.5;
    private int closed = 0;

    private LongRunsTest(int seed) {
        random = new Random(seed);
        wrongArguments = seed % 2 == 0;
    }

    public static void main(String[] args) {
        for (int seed = 0; seed < RUNS; seed++) {
            LongRunsTest test = new LongRunsTest(seed);
            checks.run("run " + seed, test::run);
        }
        checks.end();
    }

    private void run() {
        for (int call = 0; call < CALLS; call++) {
            call(random.nextInt(16));
        }
    }

    private void call(int kind) {
        switch (kind) {
            case 0 -> setShare(number(0, 4), number(0, 4));
            case 1 -> setSwitch(number(0, 4), random.nextInt(3) > 0);
            case 2 -> setPrice(number(1, 4));
            case 3, 4 -> close(number(0, 100));
            case 5, 6 -> replace(number(0, 4), number(0, Math.max(0, closed - 1)), number(0, 50));
            case 7 -> read(number(0, 4), number(0, Math.max(0, closed - 1)));
            default -> tell(number(0, 4), number(0, 50));
        }
        checks.same("closed", grid.closed(), closed);
    }

    private int number(int least, int most) {
        if (wrongArguments && random.nextInt(20) == 0) {
            int[] wrong = {least - 1, most + 1, Integer.MIN_VALUE, Integer.MAX_VALUE};
            return wrong[random.nextInt(wrong.length)];
        }
        return least + random.nextInt(most - least + 1);
    }

    private static boolean within(int number, int least, int most) {
        return least <= number && number <= most;
    }

    private void setShare(int owner, int share) {
        if (!within(owner, 0, 4) || !within(share, 0, 4)) {
            checks.fails("setShare", IllegalArgumentException.class, () -> grid.setShare(owner, share));
            return;
        }
        int others = 0;
        for (int other = 0; other < 5; other++) {
            others += other == owner ? 0 : shares[other];
        }
        if (others + share > 4) {
            checks.fails("setShare", IllegalStateException.class, () -> grid.setShare(owner, share));
            return;
        }
        checks.same("setShare", grid.setShare(owner, share), shares[owner]);
        shares[owner] = share;
    }

    private void setSwitch(int owner, boolean can) {
        if (!within(owner, 0, 4)) {
            checks.fails("setSwitch", IllegalArgumentException.class, () -> grid.setSwitch(owner, can));
            return;
        }
        checks.holds("setSwitch", grid.setSwitch(owner, can) == switches[owner]);
        switches[owner] = can;
    }

    private void setPrice(int fourths) {
        if (!within(fourths, 1, 4)) {
            checks.fails("setPrice", IllegalArgumentException.class, () -> grid.setPrice(fourths));
            return;
        }
        price = fourths * 0.25;
        checks.same("setPrice", grid.setPrice(fourths), price);
    }

    private void tell(int owner, int use) {
        if (!within(owner, 0, 4) || !within(use, 0, 50)) {
            checks.fails("tell", IllegalArgumentException.class, () -> grid.tell(owner, use));
            return;
        }
        checks.holds("tell", grid.tell(owner, use) == (told[owner] != UNKNOWN));
        told[owner] = use;
    }

    private void close(int sun) {
        if (!within(sun, 0, 100)) {
            checks.fails("close", IllegalArgumentException.class, () -> grid.close(sun));
            return;
        }
        if (closed == 60) {
            checks.fails("close", IllegalStateException.class, () -> grid.close(sun));
            return;
        }
        for (int owner = 0; owner < 5; owner++) {
            guesses[closed][owner] = guess(owner);
        }
        for (int owner = 0; owner < 5; owner++) {
            known[closed][owner] = told[owner];
            used[closed][owner] = told[owner] == UNKNOWN ? guesses[closed][owner] : told[owner];
            told[owner] = UNKNOWN;
        }
        prices[closed] = price;
        int[] shedBefore = sheds();
        double heldBefore = grid.battery();
        boolean overloaded = grid.close(sun);
        weighLine(shedBefore, overloaded);
        weighSun(sun, heldBefore);
        weighOwners();
        closed++;
    }

    private double guess(int owner) {
        double last = UNKNOWN;
        for (int quarter = closed - 1; quarter >= 0; quarter--) {
            if (known[quarter][owner] != UNKNOWN && last != UNKNOWN) {
                return (known[quarter][owner] + last) / 2.0;
            }
            if (known[quarter][owner] != UNKNOWN) {
                last = known[quarter][owner];
            }
        }
        return last == UNKNOWN ? 0.0 : last;
    }

    private int[] sheds() {
        int[] sheds = new int[5];
        for (int owner = 0; owner < 5; owner++) {
            sheds[owner] = grid.sheds(owner);
        }
        return sheds;
    }

    /** Who is shed stands in a row by times shed and then by number; a beginning of the row must be shed. */
    private void weighLine(int[] before, boolean overloaded) {
        double line = 0.0;
        for (double use : used[closed]) {
            line += use;
        }
        int[] due = before.clone();
        boolean[] isShed = new boolean[5];
        for (int rank = 0; rank < 60 * 5 && line > 100.0; rank++) {
            int times = rank / 5;
            int owner = rank % 5;
            if (before[owner] == times && !isShed[owner] && switches[owner] && used[closed][owner] > 0.0) {
                isShed[owner] = true;
                due[owner]++;
                line -= used[closed][owner];
                used[closed][owner] = 0.0;
            }
        }
        checks.holds("overloaded", overloaded == (line > 100.0));
        for (int owner = 0; owner < 5; owner++) {
            checks.same("sheds", grid.sheds(owner), due[owner]);
        }
    }

    private void weighSun(int sun, double heldBefore) {
        double fromSun = 0.0;
        double fromBattery = 0.0;
        for (int owner = 0; owner < 5; owner++) {
            fromSun += grid.fromSun(owner, closed);
            fromBattery += grid.fromBattery(owner, closed);
            double byContract = Math.min(sun * shares[owner] / 4.0, used[closed][owner]);
            checks.holds("at least by contract", grid.fromSun(owner, closed) >= byContract);
        }
        double held = grid.battery();
        checks.near("the sun", fromSun + held - heldBefore + fromBattery + grid.sold(closed), sun);
        checks.holds("the battery holds 0 to 40", held >= 0.0 && held <= 40.0);
        checks.holds("sold if the battery is full", grid.sold(closed) == 0.0 || held == 40.0);
        checks.holds("a turn", within(grid.turn(), 0, 4));
    }

    private void weighOwners() {
        for (int owner = 0; owner < 5; owner++) {
            double got = grid.fromSun(owner, closed) + grid.fromBattery(owner, closed) + grid.bought(owner, closed);
            checks.near("what an owner used", got, used[closed][owner]);
            checks.holds("bought only of an empty battery",
                    grid.bought(owner, closed) == 0.0 || grid.battery() == 0.0);
            bills[owner] += grid.bought(owner, closed) * price - grid.sold(closed) * price / 10.0;
            checks.near("bill", grid.bill(owner), bills[owner]);
        }
    }

    private void replace(int owner, int quarter, int use) {
        if (!within(owner, 0, 4) || !within(use, 0, 50)) {
            checks.fails("replace", IllegalArgumentException.class, () -> grid.replace(owner, quarter, use));
            return;
        }
        if (!within(quarter, 0, closed - 1)) {
            checks.fails("replace", IndexOutOfBoundsException.class, () -> grid.replace(owner, quarter, use));
            return;
        }
        if (known[quarter][owner] != UNKNOWN) {
            checks.fails("replace", IllegalStateException.class, () -> grid.replace(owner, quarter, use));
            return;
        }
        double change = (use - used[quarter][owner]) * prices[quarter];
        checks.same("replace", grid.replace(owner, quarter, use), change);
        known[quarter][owner] = use;
        bills[owner] += change;
        checks.near("bill", grid.bill(owner), bills[owner]);
    }

    private void read(int owner, int quarter) {
        if (!within(owner, 0, 4)) {
            checks.fails("use", IllegalArgumentException.class, () -> grid.use(owner, quarter));
            checks.fails("fromSun", IllegalArgumentException.class, () -> grid.fromSun(owner, quarter));
            checks.fails("fromBattery", IllegalArgumentException.class, () -> grid.fromBattery(owner, quarter));
            checks.fails("bought", IllegalArgumentException.class, () -> grid.bought(owner, quarter));
            checks.fails("sheds", IllegalArgumentException.class, () -> grid.sheds(owner));
            checks.fails("bill", IllegalArgumentException.class, () -> grid.bill(owner));
            return;
        }
        if (!within(quarter, 0, closed - 1)) {
            checks.fails("use", IndexOutOfBoundsException.class, () -> grid.use(owner, quarter));
            checks.fails("fromSun", IndexOutOfBoundsException.class, () -> grid.fromSun(owner, quarter));
            checks.fails("fromBattery", IndexOutOfBoundsException.class, () -> grid.fromBattery(owner, quarter));
            checks.fails("bought", IndexOutOfBoundsException.class, () -> grid.bought(owner, quarter));
            checks.fails("sold", IndexOutOfBoundsException.class, () -> grid.sold(quarter));
            return;
        }
        int use = known[quarter][owner];
        checks.same("use", grid.use(owner, quarter), use == UNKNOWN ? guesses[quarter][owner] : use);
    }
}
