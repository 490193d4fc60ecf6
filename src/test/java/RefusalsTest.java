import java.util.ArrayList;
import java.util.List;
import java.util.function.Consumer;
import java.util.function.Supplier;

/**
 * Tests what each call takes and what it refuses, on both sides of each limit; which exception comes first; and that
 * a refused call changes nothing. Each number is tried on an object of its own.
 */
public final class RefusalsTest {
    private static final Class<IllegalArgumentException> ARGUMENT = IllegalArgumentException.class;
    private static final Class<IllegalStateException> STATE = IllegalStateException.class;
    private static final Class<IndexOutOfBoundsException> INDEX = IndexOutOfBoundsException.class;

    private static final Checks checks = new Checks("RefusalsTest");
    private static final Readings read = new Readings(checks);

    /** One call, with the number whose limits are tried. */
    private interface Call {
        void on(GridCommons grid, int number);
    }

    private record Refusal(String what, Class<? extends RuntimeException> due, Consumer<GridCommons> call) {
    }

    public static void main(String[] args) {
        checks.run("2: owner 0 to 4, share 0 to 4", RefusalsTest::setShareTakesItsRanges);
        checks.run("2: shares together at most 4", RefusalsTest::setShareTakesFourTogether);
        checks.run("3: owner 0 to 4", RefusalsTest::setSwitchTakesItsRange);
        checks.run("4: fourths 1 to 4", RefusalsTest::setPriceTakesItsRange);
        checks.run("5: owner 0 to 4, use 0 to 50", RefusalsTest::tellTakesItsRanges);
        checks.run("5: the same when 60 are closed", RefusalsTest::tellTakesItsRangesWhenSixtyAreClosed);
        checks.run("6: sun 0 to 100", RefusalsTest::closeTakesItsRange);
        checks.run("6: at most 60 are closed", RefusalsTest::closeTakesSixtyQuarters);
        checks.run("8: owner 0 to 4, use 0 to 50", RefusalsTest::replaceTakesItsRanges);
        checks.run("8: quarter is closed", RefusalsTest::replaceTakesQuartersThatAreClosed);
        checks.run("8: a gap", RefusalsTest::replaceTakesGapsAlone);
        checks.run("9: owner and quarter", () -> readsOwnersAndQuarters("use", GridCommons::use));
        checks.run("10: owner and quarter", () -> readsOwnersAndQuarters("fromSun", GridCommons::fromSun));
        checks.run("11: owner and quarter", () -> readsOwnersAndQuarters("fromBattery", GridCommons::fromBattery));
        checks.run("12: owner and quarter", () -> readsOwnersAndQuarters("bought", GridCommons::bought));
        checks.run("13: quarter", () -> readsQuarters("sold", GridCommons::sold));
        checks.run("16: owner 0 to 4", () -> readsOwners("sheds", GridCommons::sheds));
        checks.run("17: owner 0 to 4", () -> readsOwners("bill", GridCommons::bill));
        checks.run("the exception that is documented first", RefusalsTest::theFirstExceptionIsThrown);
        checks.run("nothing changes, new", () -> refusalsChangeNothing(RefusalsTest::aNewOne, ofEachState()));
        checks.run("nothing changes, used", () -> refusalsChangeNothing(RefusalsTest::aUsedOne, ofTheUsedOne()));
        checks.run("nothing changes, ended", () -> refusalsChangeNothing(RefusalsTest::anEndedOne, ofTheEndedOne()));
        checks.end();
    }

    // What a call takes.

    private static void takes(String what, Supplier<GridCommons> state, int least, int most, Call call) {
        for (int number = least; number <= most; number++) {
            GridCommons grid = state.get();
            int taken = number;
            checks.passes(what + " " + number, () -> call.on(grid, taken));
        }
        refuses(what, state, ARGUMENT, call, least - 1, most + 1, Integer.MIN_VALUE, Integer.MAX_VALUE);
    }

    private static void refuses(String what, Supplier<GridCommons> state,
            Class<? extends RuntimeException> due, Call call, int... numbers) {
        for (int number : numbers) {
            GridCommons grid = state.get();
            checks.fails(what + " " + number, due, () -> call.on(grid, number));
        }
    }

    private static GridCommons withAQuarter() {
        GridCommons grid = new GridCommons();
        grid.close(0);
        return grid;
    }

    private static GridCommons withThreeQuarters() {
        GridCommons grid = withAQuarter();
        grid.close(0);
        grid.close(0);
        return grid;
    }

    private static GridCommons withSixtyQuarters() {
        GridCommons grid = new GridCommons();
        for (int quarter = 0; quarter < 60; quarter++) {
            grid.close(0);
        }
        return grid;
    }

    private static void setShareTakesItsRanges() {
        takes("setShare, owner", GridCommons::new, 0, 4, (grid, owner) -> grid.setShare(owner, 4));
        takes("setShare, share", GridCommons::new, 0, 4, (grid, share) -> grid.setShare(0, share));
        takes("setShare, share of the last", GridCommons::new, 0, 4, (grid, share) -> grid.setShare(4, share));
    }

    private static void setShareTakesFourTogether() {
        for (int owner = 0; owner < 5; owner++) {
            for (int other = 0; other < 5; other++) {
                for (int share = 0; share <= 4; share++) {
                    twoShares(owner, share, other);
                }
            }
        }
        GridCommons grid = new GridCommons();
        for (int owner = 0; owner < 4; owner++) {
            grid.setShare(owner, 1);
        }
        checks.fails("a fifth of five", STATE, () -> grid.setShare(4, 1));
        checks.fails("a second fourth of one", STATE, () -> grid.setShare(3, 2));
        checks.same("its own share is given back first", grid.setShare(3, 1), 1);
        checks.same("0 is taken when all are given", grid.setShare(4, 0), 0);
        checks.same("one gives a fourth back", grid.setShare(1, 0), 1);
        checks.same("another takes it", grid.setShare(4, 1), 0);
        checks.fails("and it is gone", STATE, () -> grid.setShare(1, 1));
    }

    private static void twoShares(int owner, int share, int other) {
        GridCommons grid = new GridCommons();
        grid.setShare(owner, share);
        int free = owner == other ? 4 : 4 - share;
        if (free < 4) {
            checks.fails("one more than is free", STATE, () -> grid.setShare(other, free + 1));
            checks.fails("all of four", STATE, () -> grid.setShare(other, 4));
        }
        checks.same("what is free", grid.setShare(other, free), owner == other ? share : 0);
        checks.same("it is set", grid.setShare(other, 0), free);
    }

    private static void setSwitchTakesItsRange() {
        takes("setSwitch, owner", GridCommons::new, 0, 4, (grid, owner) -> grid.setSwitch(owner, false));
        takes("setSwitch back, owner", GridCommons::new, 0, 4, (grid, owner) -> grid.setSwitch(owner, true));
    }

    private static void setPriceTakesItsRange() {
        takes("setPrice, fourths", GridCommons::new, 1, 4, (grid, fourths) -> grid.setPrice(fourths));
    }

    private static void tellTakesItsRanges() {
        takes("tell, owner", GridCommons::new, 0, 4, (grid, owner) -> grid.tell(owner, 50));
        takes("tell, use", GridCommons::new, 0, 50, (grid, use) -> grid.tell(0, use));
        takes("tell, use of the last", GridCommons::new, 0, 50, (grid, use) -> grid.tell(4, use));
        takes("tell again, use", RefusalsTest::aToldOne, 0, 50, (grid, use) -> grid.tell(0, use));
    }

    // Promise 5 names no exception for the state; the one for 60 closed quarters is that of promise 6.

    private static void tellTakesItsRangesWhenSixtyAreClosed() {
        Supplier<GridCommons> sixty = RefusalsTest::withSixtyQuarters;
        takes("tell behind the 60th, owner", sixty, 0, 4, (grid, owner) -> grid.tell(owner, 50));
        takes("tell behind the 60th, use", sixty, 0, 50, (grid, use) -> grid.tell(0, use));
        takes("tell behind the 60th, use of the last", sixty, 0, 50, (grid, use) -> grid.tell(4, use));
    }

    private static GridCommons aToldOne() {
        GridCommons grid = new GridCommons();
        grid.tell(0, 7);
        return grid;
    }

    private static void closeTakesItsRange() {
        takes("close, sun", GridCommons::new, 0, 100, (grid, sun) -> grid.close(sun));
        takes("close of a told quarter, sun", RefusalsTest::aToldOne, 0, 100, (grid, sun) -> grid.close(sun));
    }

    private static void closeTakesSixtyQuarters() {
        GridCommons grid = new GridCommons();
        for (int quarter = 0; quarter < 59; quarter++) {
            grid.close(0);
        }
        checks.passes("the 60th", () -> grid.close(0));
        checks.same("60 are closed", grid.closed(), 60);
        checks.fails("the 61st", STATE, () -> grid.close(0));
        checks.fails("the 61st with a sun", STATE, () -> grid.close(100));
        checks.same("no more", grid.closed(), 60);
    }

    private static void replaceTakesItsRanges() {
        takes("replace, owner", RefusalsTest::withAQuarter, 0, 4, (grid, owner) -> grid.replace(owner, 0, 50));
        takes("replace, use", RefusalsTest::withAQuarter, 0, 50, (grid, use) -> grid.replace(0, 0, use));
        takes("replace, use of the last", RefusalsTest::withAQuarter, 0, 50, (grid, use) -> grid.replace(4, 0, use));
    }

    private static void replaceTakesQuartersThatAreClosed() {
        for (int owner = 0; owner < 5; owner++) {
            int who = owner;
            readsQuarters("replace of " + owner + ", quarter", (grid, quarter) -> grid.replace(who, quarter, 1));
        }
    }

    private static void replaceTakesGapsAlone() {
        for (int owner = 0; owner < 5; owner++) {
            GridCommons grid = new GridCommons();
            int who = owner;
            grid.tell(owner, owner);
            grid.close(0);
            checks.fails("told", STATE, () -> grid.replace(who, 0, 50));
            checks.fails("told, by the same", STATE, () -> grid.replace(who, 0, who));
            int gap = (owner + 1) % 5;
            checks.passes("a gap", () -> grid.replace(gap, 0, 0));
            checks.fails("replaced", STATE, () -> grid.replace(gap, 0, 50));
            checks.fails("replaced, by the same", STATE, () -> grid.replace(gap, 0, 0));
            grid.close(0);
            checks.passes("the next quarter of one that was told", () -> grid.replace(who, 1, 50));
            checks.passes("the next quarter of one that was replaced", () -> grid.replace(gap, 1, 50));
        }
    }

    private static void readsOwnersAndQuarters(String what, ReadInQuarter call) {
        takes(what + ", owner", RefusalsTest::withAQuarter, 0, 4, (grid, owner) -> call.of(grid, owner, 0));
        for (int owner = 0; owner < 5; owner++) {
            int who = owner;
            readsQuarters(what + " of " + owner + ", quarter", (grid, quarter) -> call.of(grid, who, quarter));
        }
    }

    private interface ReadInQuarter {
        double of(GridCommons grid, int owner, int quarter);
    }

    private static void readsQuarters(String what, Call call) {
        int[] never = {-1, -5, Integer.MIN_VALUE, Integer.MAX_VALUE, Integer.MAX_VALUE / 5 + 1};
        refuses(what + " of none", GridCommons::new, INDEX, call, 0, 1, 59, 60);
        refuses(what + " of none", GridCommons::new, INDEX, call, never);
        refuses(what + " of one", RefusalsTest::withAQuarter, INDEX, call, 1, 2, 59, 60);
        refuses(what + " of one", RefusalsTest::withAQuarter, INDEX, call, never);
        refuses(what + " of three", RefusalsTest::withThreeQuarters, INDEX, call, 3, 4);
        refuses(what + " of sixty", RefusalsTest::withSixtyQuarters, INDEX, call, 60, 61, 300);
        refuses(what + " of sixty", RefusalsTest::withSixtyQuarters, INDEX, call, never);
        GridCommons three = withThreeQuarters();
        GridCommons sixty = withSixtyQuarters();
        checks.passes(what + " of one, 0", () -> call.on(withAQuarter(), 0));
        checks.passes(what + " of three, 0", () -> call.on(three, 0));
        checks.passes(what + " of three, 2", () -> call.on(three, 2));
        checks.passes(what + " of sixty, 0", () -> call.on(sixty, 0));
        checks.passes(what + " of sixty, 59", () -> call.on(sixty, 59));
    }

    private static void readsOwners(String what, Call call) {
        takes(what + ", owner", GridCommons::new, 0, 4, call);
        takes(what + " of one, owner", RefusalsTest::withAQuarter, 0, 4, call);
    }

    // "If several exceptions apply, the one that is documented first is thrown."

    private static void theFirstExceptionIsThrown() {
        GridCommons full = new GridCommons();
        full.setShare(0, 4);
        checks.fails("setShare, owner and too much", ARGUMENT, () -> full.setShare(5, 1));
        checks.fails("setShare, share and too much", ARGUMENT, () -> full.setShare(1, 5));
        checks.fails("setShare, both and too much", ARGUMENT, () -> full.setShare(-1, 5));
        GridCommons sixty = withSixtyQuarters();
        checks.fails("close, too much sun and 60", ARGUMENT, () -> sixty.close(101));
        checks.fails("close, too little sun and 60", ARGUMENT, () -> sixty.close(-1));
        GridCommons grid = new GridCommons();
        grid.tell(0, 5);
        grid.close(0);
        grid.replace(1, 0, 5);
        grid.tell(2, 5);
        for (int quarter : new int[] {-1, 0, 1}) {
            checks.fails("replace, owner and quarter", ARGUMENT, () -> grid.replace(5, quarter, 5));
            checks.fails("replace, use and quarter", ARGUMENT, () -> grid.replace(3, quarter, 51));
            checks.fails("replace, use and quarter or told", ARGUMENT, () -> grid.replace(0, quarter, -1));
            checks.fails("replace, use and quarter or replaced", ARGUMENT, () -> grid.replace(1, quarter, 51));
        }
        checks.fails("replace of what is told for the next quarter", INDEX, () -> grid.replace(2, 1, 5));
        for (int quarter : new int[] {-1, 1}) {
            checks.fails("use, owner and quarter", ARGUMENT, () -> grid.use(5, quarter));
            checks.fails("fromSun, owner and quarter", ARGUMENT, () -> grid.fromSun(-1, quarter));
            checks.fails("fromBattery, owner and quarter", ARGUMENT, () -> grid.fromBattery(5, quarter));
            checks.fails("bought, owner and quarter", ARGUMENT, () -> grid.bought(-1, quarter));
        }
    }

    // "A method that throws an exception changes nothing": a twin that is spared the refused call goes on just so.

    private static void refusalsChangeNothing(Supplier<GridCommons> state, List<Refusal> refusals) {
        for (Refusal refusal : refusals) {
            GridCommons grid = state.get();
            GridCommons twin = state.get();
            checks.fails(refusal.what(), refusal.due(), () -> refusal.call().accept(grid));
            read.sameAnswers(refusal.what(), Readings.answers(grid), Readings.answers(twin));
            read.sameAnswers(refusal.what() + ", later,", goOn(grid), goOn(twin));
            toldUsesStay(refusal, state.get(), state.get());
        }
    }

    /** On objects of their own, because a close, even a refused one, could hide what the refused call did to these. */
    private static void toldUsesStay(Refusal refusal, GridCommons grid, GridCommons twin) {
        checks.fails(refusal.what(), refusal.due(), () -> refusal.call().accept(grid));
        for (int owner = 0; owner < 5; owner++) {
            checks.holds(refusal.what() + " leaves what is told", grid.tell(owner, 1) == twin.tell(owner, 1));
        }
    }

    /** Calls that bring out what no call reads: the shares, the switches, the price, what is told, which is a gap. */
    private static List<String> goOn(GridCommons grid) {
        List<String> answers = new ArrayList<>();
        answers.add(answer("a new share of 4", () -> grid.setShare(4, 2)));
        answers.add(answer("close", () -> grid.close(9)));
        for (int owner = 0; owner < 5; owner++) {
            int who = owner;
            answers.add(answer("told", () -> grid.tell(who, 40)));
            answers.add(answer("replace", () -> grid.replace(who, 0, 3)));
        }
        answers.add(answer("close", () -> grid.close(50)));
        int closed = grid.closed();
        for (int owner = 0; owner < 5; owner++) {
            int who = owner;
            answers.add(answer("share", () -> grid.setShare(who, 0)));
            answers.add(answer("switch", () -> grid.setSwitch(who, true)));
            for (int quarter = 0; quarter < closed; quarter++) {
                int when = quarter;
                if (Readings.isAtAnEnd(quarter, closed)) {
                    answers.add(answer("replace", () -> grid.replace(who, when, 20)));
                }
            }
        }
        answers.addAll(Readings.answers(grid));
        return answers;
    }

    private static String answer(String what, Supplier<Object> call) {
        try {
            return what + " " + call.get();
        } catch (IllegalStateException e) {
            return what + " is refused";
        }
    }

    private static GridCommons aNewOne() {
        return new GridCommons();
    }

    /** Shares are given, one switch cannot, two quarters have told uses and gaps, and the next is told in part. */
    private static GridCommons aUsedOne() {
        GridCommons grid = new GridCommons();
        grid.setShare(0, 2);
        grid.setShare(2, 1);
        grid.setSwitch(1, false);
        grid.setPrice(3);
        grid.tell(0, 5);
        grid.tell(1, 7);
        grid.close(60);
        grid.tell(2, 50);
        grid.tell(3, 50);
        grid.close(2);
        grid.replace(3, 0, 11);
        grid.setPrice(4);
        grid.tell(0, 20);
        grid.tell(4, 30);
        return grid;
    }

    private static GridCommons anEndedOne() {
        GridCommons grid = aUsedOne();
        for (int quarter = 2; quarter < 60; quarter++) {
            grid.close(quarter);
        }
        grid.tell(3, 33);
        return grid;
    }

    private static List<Refusal> ofEachState() {
        List<Refusal> refusals = new ArrayList<>();
        for (int wrong : new int[] {-1, 5}) {
            String end = " " + wrong;
            refusals.add(new Refusal("setShare, owner" + end, ARGUMENT, grid -> grid.setShare(wrong, 1)));
            refusals.add(new Refusal("setShare, share" + end, ARGUMENT, grid -> grid.setShare(0, wrong)));
            refusals.add(new Refusal("setSwitch, owner" + end, ARGUMENT, grid -> grid.setSwitch(wrong, false)));
            refusals.add(new Refusal("tell, owner" + end, ARGUMENT, grid -> grid.tell(wrong, 9)));
            refusals.add(new Refusal("replace, owner" + end, ARGUMENT, grid -> grid.replace(wrong, 0, 9)));
            refusals.add(new Refusal("use, owner" + end, ARGUMENT, grid -> grid.use(wrong, 0)));
            refusals.add(new Refusal("fromSun, owner" + end, ARGUMENT, grid -> grid.fromSun(wrong, 0)));
            refusals.add(new Refusal("fromBattery, owner" + end, ARGUMENT, grid -> grid.fromBattery(wrong, 0)));
            refusals.add(new Refusal("bought, owner" + end, ARGUMENT, grid -> grid.bought(wrong, 0)));
            refusals.add(new Refusal("sheds, owner" + end, ARGUMENT, grid -> grid.sheds(wrong)));
            refusals.add(new Refusal("bill, owner" + end, ARGUMENT, grid -> grid.bill(wrong)));
        }
        for (int wrong : new int[] {-1, 51}) {
            for (int owner = 0; owner < 5; owner++) {
                int who = owner;
                String end = " " + wrong + " of " + owner;
                refusals.add(new Refusal("tell, use" + end, ARGUMENT, grid -> grid.tell(who, wrong)));
                refusals.add(new Refusal("replace, use" + end, ARGUMENT, grid -> grid.replace(who, 0, wrong)));
            }
        }
        for (int wrong : new int[] {-1, 60}) {
            String end = " " + wrong;
            refusals.add(new Refusal("replace, quarter" + end, INDEX, grid -> grid.replace(2, wrong, 9)));
            refusals.add(new Refusal("use, quarter" + end, INDEX, grid -> grid.use(2, wrong)));
            refusals.add(new Refusal("fromSun, quarter" + end, INDEX, grid -> grid.fromSun(2, wrong)));
            refusals.add(new Refusal("fromBattery, quarter" + end, INDEX, grid -> grid.fromBattery(2, wrong)));
            refusals.add(new Refusal("bought, quarter" + end, INDEX, grid -> grid.bought(2, wrong)));
            refusals.add(new Refusal("sold, quarter" + end, INDEX, grid -> grid.sold(wrong)));
        }
        refusals.add(new Refusal("setPrice 0", ARGUMENT, grid -> grid.setPrice(0)));
        refusals.add(new Refusal("setPrice 5", ARGUMENT, grid -> grid.setPrice(5)));
        refusals.add(new Refusal("close -1", ARGUMENT, grid -> grid.close(-1)));
        refusals.add(new Refusal("close 101", ARGUMENT, grid -> grid.close(101)));
        return refusals;
    }

    private static List<Refusal> ofTheUsedOne() {
        List<Refusal> refusals = ofEachState();
        refusals.add(new Refusal("setShare of a full sun", STATE, grid -> grid.setShare(1, 2)));
        refusals.add(new Refusal("setShare of one more", STATE, grid -> grid.setShare(2, 3)));
        refusals.add(new Refusal("replace of a told use", STATE, grid -> grid.replace(0, 0, 40)));
        refusals.add(new Refusal("replace of a replaced gap", STATE, grid -> grid.replace(3, 0, 40)));
        refusals.add(new Refusal("replace in the next quarter", INDEX, grid -> grid.replace(0, 2, 40)));
        return refusals;
    }

    private static List<Refusal> ofTheEndedOne() {
        List<Refusal> refusals = ofTheUsedOne();
        refusals.remove(refusals.size() - 1);
        refusals.add(new Refusal("a 61st close", STATE, grid -> grid.close(50)));
        refusals.add(new Refusal("a 61st close without sun", STATE, grid -> grid.close(0)));
        return refusals;
    }
}
