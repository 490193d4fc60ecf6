import java.util.ArrayList;
import java.util.List;

/** What the test programs have in common to close whole quarters, and to check what came of them for all owners. */
final class Readings {
    private final Checks checks;

    Readings(Checks checks) {
        this.checks = checks;
    }

    /** Tells all five uses and closes the quarter; the answer is that of close. */
    static boolean quarter(GridCommons grid, int sun, int... uses) {
        for (int owner = 0; owner < 5; owner++) {
            grid.tell(owner, uses[owner]);
        }
        return grid.close(sun);
    }

    static GridCommons withFullBattery() {
        return withBattery(40);
    }

    /** One quarter is closed; the battery holds as many units as are asked for, from 0 to 40. */
    static GridCommons withBattery(int units) {
        GridCommons grid = new GridCommons();
        quarter(grid, units, 0, 0, 0, 0, 0);
        return grid;
    }

    void fromSunIs(GridCommons grid, int quarter, double... due) {
        for (int owner = 0; owner < 5; owner++) {
            checks.same("fromSun(" + owner + ", " + quarter + ")", grid.fromSun(owner, quarter), due[owner]);
        }
    }

    void fromBatteryIs(GridCommons grid, int quarter, double... due) {
        for (int owner = 0; owner < 5; owner++) {
            checks.same("fromBattery(" + owner + ", " + quarter + ")", grid.fromBattery(owner, quarter), due[owner]);
        }
    }

    void boughtIs(GridCommons grid, int quarter, double... due) {
        for (int owner = 0; owner < 5; owner++) {
            checks.same("bought(" + owner + ", " + quarter + ")", grid.bought(owner, quarter), due[owner]);
        }
    }

    void useIs(GridCommons grid, int quarter, double... due) {
        for (int owner = 0; owner < 5; owner++) {
            checks.same("use(" + owner + ", " + quarter + ")", grid.use(owner, quarter), due[owner]);
        }
    }

    void shedsIs(GridCommons grid, int... due) {
        for (int owner = 0; owner < 5; owner++) {
            checks.same("sheds(" + owner + ")", grid.sheds(owner), due[owner]);
        }
    }

    void billIs(GridCommons grid, double... due) {
        for (int owner = 0; owner < 5; owner++) {
            checks.same("bill(" + owner + ")", grid.bill(owner), due[owner]);
        }
    }

    /** What the calls answer that only read: of many quarters, the first and last ones, for 512 calls are soon gone. */
    static List<String> answers(GridCommons grid) {
        List<String> answers = new ArrayList<>();
        answers.add("battery " + grid.battery());
        answers.add("turn " + grid.turn());
        for (int owner = 0; owner < 5; owner++) {
            answers.add("sheds of " + owner + " " + grid.sheds(owner));
            answers.add("bill of " + owner + " " + grid.bill(owner));
        }
        int closed = grid.closed();
        answers.add("closed " + closed);
        for (int quarter = 0; quarter < closed; quarter++) {
            if (isAtAnEnd(quarter, closed)) {
                addAnswers(answers, grid, quarter);
            }
        }
        return answers;
    }

    static boolean isAtAnEnd(int quarter, int closed) {
        return quarter < 3 || quarter >= closed - 3;
    }

    private static void addAnswers(List<String> answers, GridCommons grid, int quarter) {
        answers.add("sold in " + quarter + " " + grid.sold(quarter));
        for (int owner = 0; owner < 5; owner++) {
            String where = " of " + owner + " in " + quarter + " ";
            answers.add("use" + where + grid.use(owner, quarter));
            answers.add("fromSun" + where + grid.fromSun(owner, quarter));
            answers.add("fromBattery" + where + grid.fromBattery(owner, quarter));
            answers.add("bought" + where + grid.bought(owner, quarter));
        }
    }

    /** Both must have the same answers, and the first that is another is told. */
    void sameAnswers(String what, List<String> got, List<String> due) {
        String other = got.size() == due.size() ? "" : "their number";
        for (int i = 0; i < got.size() && i < due.size() && other.isEmpty(); i++) {
            other = got.get(i).equals(due.get(i)) ? "" : got.get(i) + " (due is " + due.get(i) + ")";
        }
        checks.holds(what + " changes nothing, but for " + other, other.isEmpty());
    }
}
