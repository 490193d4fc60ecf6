import java.util.Random;
import java.util.function.IntToDoubleFunction;

/**
 * Long runs of calls of every kind, with wrong arguments among them. Beside each run the test keeps what was
 * told, and weighs closed quarters: what the sun gave must be somewhere, and so must what each owner used. A weighed
 * quarter takes many of the 512 calls, so some runs weigh each quarter and others one in three or in twelve.
 */
public final class LongRunsTest {
    private static final int RUNS = 2000;
    private static final int CALLS = 512;
    private static final int CALLS_OF_THE_DEAREST_STEP = 40;
    private static final int UNKNOWN = -1;

    private static final Checks checks = new Checks("LongRunsTest");

    private final Random random;
    private final GridCommons grid = new GridCommons();
    private final boolean wrongArguments;
    private final int[] shares = new int[5];
    private final boolean[] switches = {true, true, true, true, true};
    private final int[] told = {UNKNOWN, UNKNOWN, UNKNOWN, UNKNOWN, UNKNOWN};
    private final int[][] known = new int[60][5];
    private final double[][] used = new double[60][5];
    private final double[][] guesses = new double[60][5];
    private final double[] prices = new double[60];
    private final int[] sheds = new int[5];
    private final int weighEvery;
    private double price = 0.5;
    private int closed = 0;
    private int calls = 0;

    private LongRunsTest(int seed) {
        random = new Random(seed);
        wrongArguments = seed % 2 == 0;
        weighEvery = new int[] {1, 3, 12}[seed % 3];
    }

    public static void main(String[] args) {
        for (int seed = 0; seed < RUNS; seed++) {
            LongRunsTest test = new LongRunsTest(seed);
            checks.run("run " + seed, test::run);
        }
        checks.end();
    }

    // Nothing is promised behind the 512th call, so each call is counted.
    private GridCommons grid() {
        calls++;
        return grid;
    }

    private void run() {
        while (calls < CALLS - CALLS_OF_THE_DEAREST_STEP) {
            step(random.nextInt(16));
        }
        checks.holds("at most 512 calls", calls <= CALLS);
    }

    private void step(int kind) {
        switch (kind) {
            case 0 -> setShare(number(0, 4), number(0, 4));
            case 1 -> setSwitch(number(0, 4), random.nextInt(3) > 0);
            case 2 -> setPrice(number(1, 4));
            case 3, 4 -> close(number(0, 100));
            case 5, 6 -> replace(number(0, 4), number(0, Math.max(0, closed - 1)), number(0, 50));
            case 7 -> read(number(0, 4), number(0, Math.max(0, closed - 1)));
            default -> tell(number(0, 4), number(0, 50));
        }
        if (random.nextInt(8) == 0) {
            checks.same("closed", grid().closed(), closed);
        }
    }

    private int number(int least, int most) {
        if (wrongArguments && random.nextInt(20) == 0) {
            int[] wrong = {least - 1, most + 1, Integer.MIN_VALUE, Integer.MAX_VALUE};
            return wrong[random.nextInt(wrong.length)];
        }
        return least + random.nextInt(most - least + 1);
    }

    private static boolean within(int number, int least, int most) {
        return least <= number && number <= most;
    }

    private void setShare(int owner, int share) {
        if (!within(owner, 0, 4) || !within(share, 0, 4)) {
            checks.fails("setShare", IllegalArgumentException.class, () -> grid().setShare(owner, share));
            return;
        }
        int others = 0;
        for (int other = 0; other < 5; other++) {
            others += other == owner ? 0 : shares[other];
        }
        if (others + share > 4) {
            checks.fails("setShare", IllegalStateException.class, () -> grid().setShare(owner, share));
            return;
        }
        checks.same("setShare", grid().setShare(owner, share), shares[owner]);
        shares[owner] = share;
    }

    private void setSwitch(int owner, boolean can) {
        if (!within(owner, 0, 4)) {
            checks.fails("setSwitch", IllegalArgumentException.class, () -> grid().setSwitch(owner, can));
            return;
        }
        checks.holds("setSwitch", grid().setSwitch(owner, can) == switches[owner]);
        switches[owner] = can;
    }

    private void setPrice(int fourths) {
        if (!within(fourths, 1, 4)) {
            checks.fails("setPrice", IllegalArgumentException.class, () -> grid().setPrice(fourths));
            return;
        }
        price = fourths * 0.25;
        checks.same("setPrice", grid().setPrice(fourths), price);
    }

    private void tell(int owner, int use) {
        if (!within(owner, 0, 4) || !within(use, 0, 50)) {
            checks.fails("tell", IllegalArgumentException.class, () -> grid().tell(owner, use));
            return;
        }
        checks.holds("tell", grid().tell(owner, use) == (told[owner] != UNKNOWN));
        told[owner] = use;
    }

    private void close(int sun) {
        if (!within(sun, 0, 100)) {
            checks.fails("close", IllegalArgumentException.class, () -> grid().close(sun));
            return;
        }
        if (closed == 60) {
            checks.fails("close", IllegalStateException.class, () -> grid().close(sun));
            return;
        }
        for (int owner = 0; owner < 5; owner++) {
            guesses[closed][owner] = guess(owner);
        }
        for (int owner = 0; owner < 5; owner++) {
            known[closed][owner] = told[owner];
            used[closed][owner] = told[owner] == UNKNOWN ? guesses[closed][owner] : told[owner];
            told[owner] = UNKNOWN;
        }
        prices[closed] = price;
        boolean overloadIsDue = shed();
        if (closed % weighEvery == 0) {
            closeAndWeigh(sun, overloadIsDue);
        } else {
            checks.holds("overloaded", grid().close(sun) == overloadIsDue);
        }
        closed++;
    }

    private double guess(int owner) {
        double last = UNKNOWN;
        for (int quarter = closed - 1; quarter >= 0; quarter--) {
            if (known[quarter][owner] != UNKNOWN && last != UNKNOWN) {
                return (known[quarter][owner] + last) / 2.0;
            }
            if (known[quarter][owner] != UNKNOWN) {
                last = known[quarter][owner];
            }
        }
        return last == UNKNOWN ? 0.0 : last;
    }

    /** Who is shed stands in a row by times shed and then by number; a beginning of the row must be shed. */
    private boolean shed() {
        double line = 0.0;
        for (double use : used[closed]) {
            line += use;
        }
        int[] before = sheds.clone();
        for (int rank = 0; rank < 60 * 5 && line > 100.0; rank++) {
            int owner = rank % 5;
            if (before[owner] == rank / 5 && switches[owner] && used[closed][owner] > 0.0) {
                sheds[owner]++;
                line -= used[closed][owner];
                used[closed][owner] = 0.0;
            }
        }
        return line > 100.0;
    }

    private void closeAndWeigh(int sun, boolean overloadIsDue) {
        double[] billsBefore = ofOwners(owner -> grid().bill(owner));
        double heldBefore = grid().battery();
        int turnBefore = grid().turn();
        checks.holds("overloaded", grid().close(sun) == overloadIsDue);
        double[] fromSun = ofOwners(owner -> grid().fromSun(owner, closed));
        double[] fromBattery = ofOwners(owner -> grid().fromBattery(owner, closed));
        double[] bought = ofOwners(owner -> grid().bought(owner, closed));
        double sold = grid().sold(closed);
        double held = grid().battery();
        weighSun(sun, fromSun, held - heldBefore + sum(fromBattery) + sold);
        weighBattery(held, sold, turnBefore, fromBattery);
        for (int owner = 0; owner < 5; owner++) {
            checks.same("sheds", grid().sheds(owner), sheds[owner]);
            double got = fromSun[owner] + fromBattery[owner] + bought[owner];
            checks.near("what an owner used", got, used[closed][owner]);
            checks.holds("bought only of an empty battery", bought[owner] == 0.0 || held == 0.0);
            double due = billsBefore[owner] + bought[owner] * price - sold * price / 10.0;
            checks.near("bill", grid().bill(owner), due);
        }
    }

    private void weighSun(int sun, double[] fromSun, double notUsed) {
        for (int owner = 0; owner < 5; owner++) {
            double byContract = Math.min(sun * shares[owner] / 4.0, used[closed][owner]);
            checks.holds("at least by contract", fromSun[owner] >= byContract);
        }
        checks.near("the sun", sum(fromSun) + notUsed, sun);
    }

    private void weighBattery(double held, double sold, int turnBefore, double[] fromBattery) {
        checks.holds("the battery holds 0 to 40", held >= 0.0 && held <= 40.0);
        checks.holds("sold if the battery is full", sold == 0.0 || held == 40.0);
        int turn = turnBefore;
        for (int round = 0; round < 5; round++) {
            int owner = (turnBefore + round) % 5;
            turn = fromBattery[owner] > 0.0 ? (owner + 1) % 5 : turn;
        }
        checks.same("turn", grid().turn(), turn);
    }

    private static double[] ofOwners(IntToDoubleFunction reading) {
        double[] readings = new double[5];
        for (int owner = 0; owner < 5; owner++) {
            readings[owner] = reading.applyAsDouble(owner);
        }
        return readings;
    }

    private static double sum(double[] readings) {
        double sum = 0.0;
        for (double reading : readings) {
            sum += reading;
        }
        return sum;
    }

    private void replace(int owner, int quarter, int use) {
        if (!within(owner, 0, 4) || !within(use, 0, 50)) {
            checks.fails("replace", IllegalArgumentException.class, () -> grid().replace(owner, quarter, use));
            return;
        }
        if (!within(quarter, 0, closed - 1)) {
            checks.fails("replace", IndexOutOfBoundsException.class, () -> grid().replace(owner, quarter, use));
            return;
        }
        if (known[quarter][owner] != UNKNOWN) {
            checks.fails("replace", IllegalStateException.class, () -> grid().replace(owner, quarter, use));
            return;
        }
        double change = (use - used[quarter][owner]) * prices[quarter];
        double before = grid().bill(owner);
        checks.same("replace", grid().replace(owner, quarter, use), change);
        known[quarter][owner] = use;
        checks.same("bill", grid().bill(owner), before + change);
    }

    private void read(int owner, int quarter) {
        if (!within(owner, 0, 4)) {
            checks.fails("use", IllegalArgumentException.class, () -> grid().use(owner, quarter));
            checks.fails("fromSun", IllegalArgumentException.class, () -> grid().fromSun(owner, quarter));
            checks.fails("fromBattery", IllegalArgumentException.class, () -> grid().fromBattery(owner, quarter));
            checks.fails("bought", IllegalArgumentException.class, () -> grid().bought(owner, quarter));
            checks.fails("sheds", IllegalArgumentException.class, () -> grid().sheds(owner));
            checks.fails("bill", IllegalArgumentException.class, () -> grid().bill(owner));
            return;
        }
        if (!within(quarter, 0, closed - 1)) {
            checks.fails("use", IndexOutOfBoundsException.class, () -> grid().use(owner, quarter));
            checks.fails("fromSun", IndexOutOfBoundsException.class, () -> grid().fromSun(owner, quarter));
            checks.fails("fromBattery", IndexOutOfBoundsException.class, () -> grid().fromBattery(owner, quarter));
            checks.fails("bought", IndexOutOfBoundsException.class, () -> grid().bought(owner, quarter));
            checks.fails("sold", IndexOutOfBoundsException.class, () -> grid().sold(quarter));
            return;
        }
        int use = known[quarter][owner];
        checks.same("use", grid().use(owner, quarter), use == UNKNOWN ? guesses[quarter][owner] : use);
    }
}
