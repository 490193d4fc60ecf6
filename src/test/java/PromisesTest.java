/** Tests of each promise of the document, by their numbers; every answer here is worked out by hand. */
public final class PromisesTest {
    private static final Class<IllegalArgumentException> ARGUMENT = IllegalArgumentException.class;
    private static final Class<IllegalStateException> STATE = IllegalStateException.class;
    private static final Class<IndexOutOfBoundsException> INDEX = IndexOutOfBoundsException.class;
    private static final int[] WRONG_OWNERS = {-1, 5, Integer.MIN_VALUE, Integer.MAX_VALUE};
    private static final int[] WRONG_USES = {-1, 51, Integer.MIN_VALUE, Integer.MAX_VALUE};

    private static final Checks checks = new Checks("PromisesTest");
    private static final Readings read = new Readings(checks);

    public static void main(String[] args) {
        checks.run("promise 1", PromisesTest::aNewObject);
        checks.run("promise 2, answers", PromisesTest::setShareAnswersTheShareBefore);
        checks.run("promise 2, limits", PromisesTest::setShareKeepsTheLimits);
        checks.run("promise 3, answers", PromisesTest::setSwitchAnswersWhetherItCould);
        checks.run("promise 3, shedding", PromisesTest::aSwitchThatCannotIsNotShed);
        checks.run("promise 4, answers", PromisesTest::setPriceAnswersThePrice);
        checks.run("promise 4, quarters", PromisesTest::thePriceOfAQuarterIsThePriceAtItsClose);
        checks.run("promise 5, answers", PromisesTest::tellAnswersWhetherItWasTold);
        checks.run("promise 5, limits", PromisesTest::tellKeepsTheLimits);
        checks.run("promise 6, limits", PromisesTest::closeKeepsTheLimits);
        checks.run("promise 6, guesses", PromisesTest::gapsAreFilledWithGuesses);
        checks.run("promise 6, guesses and replaced gaps", PromisesTest::guessesLookAtTheLatestQuarters);
        checks.run("promise 6, shedding", PromisesTest::ownersAreShedInAJustTurn);
        checks.run("promise 6, whom to shed", PromisesTest::onlyThoseWhoUseAreShed);
        checks.run("promise 6, overload", PromisesTest::theLineIsOverloadedIfNobodyIsLeft);
        checks.run("promise 7", PromisesTest::closedCounts);
        checks.run("promise 8, bills", PromisesTest::replaceChangesTheBill);
        checks.run("promise 8, what stays", PromisesTest::replaceLeavesTheQuarterAsItWas);
        checks.run("promise 8, shed", PromisesTest::replaceOfAShedGapCountsTheWholeUse);
        checks.run("promise 8, limits", PromisesTest::replaceKeepsTheLimits);
        checks.run("promise 9", PromisesTest::useIsWhatIsKnownNow);
        checks.run("promise 10, by contract", PromisesTest::theSunIsSharedByContract);
        checks.run("promise 10, by need", PromisesTest::whatIsLeftIsSharedByNeed);
        checks.run("promise 10, just enough", PromisesTest::whatIsLeftMayJustDo);
        checks.run("promise 11", PromisesTest::theBatteryGives);
        checks.run("promise 12", PromisesTest::whatIsMissingIsBought);
        checks.run("promise 13", PromisesTest::whatIsTooMuchIsSold);
        checks.run("promise 14", PromisesTest::theBatteryHolds);
        checks.run("promise 15", PromisesTest::theTurnGoesOn);
        checks.run("promise 15, who gets nothing", PromisesTest::theTurnStaysIfNobodyGets);
        checks.run("promise 16", PromisesTest::shedsCounts);
        checks.run("promise 17", PromisesTest::billAddsUp);
        checks.run("promises 9 to 13, limits", PromisesTest::whatCameKeepsTheLimits);
        checks.end();
    }

    // Promise 1.

    private static void aNewObject() {
        GridCommons grid = new GridCommons();
        checks.same("battery", grid.battery(), 0.0);
        checks.same("turn", grid.turn(), 0);
        checks.same("closed", grid.closed(), 0);
        read.shedsIs(grid, 0, 0, 0, 0, 0);
        read.billIs(grid, 0, 0, 0, 0, 0);
        for (int owner = 0; owner < 5; owner++) {
            checks.same("share at first", grid.setShare(owner, 0), 0);
            checks.holds("can be shed at first", grid.setSwitch(owner, true));
            checks.holds("nothing told at first", !grid.tell(owner, 2));
        }
        grid.close(0);
        read.billIs(grid, 1, 1, 1, 1, 1);
        checks.same("another object is on its own", new GridCommons().closed(), 0);
    }

    // Promise 2.

    private static void setShareAnswersTheShareBefore() {
        GridCommons grid = new GridCommons();
        checks.same("setShare(0, 3)", grid.setShare(0, 3), 0);
        checks.same("setShare(0, 1)", grid.setShare(0, 1), 3);
        checks.same("setShare(0, 0)", grid.setShare(0, 0), 1);
        checks.same("setShare(4, 4)", grid.setShare(4, 4), 0);
        checks.same("setShare(4, 4) again", grid.setShare(4, 4), 4);
    }

    private static void setShareKeepsTheLimits() {
        GridCommons grid = new GridCommons();
        for (int owner : WRONG_OWNERS) {
            checks.fails("setShare of owner " + owner, ARGUMENT, () -> grid.setShare(owner, 0));
        }
        for (int share : new int[] {-1, 5, Integer.MIN_VALUE, Integer.MAX_VALUE}) {
            checks.fails("setShare to " + share, ARGUMENT, () -> grid.setShare(0, share));
        }
        for (int owner = 0; owner < 4; owner++) {
            checks.same("a fourth each", grid.setShare(owner, 1), 0);
        }
        checks.fails("a fifth fourth", STATE, () -> grid.setShare(4, 1));
        checks.fails("one more fourth", STATE, () -> grid.setShare(0, 2));
        checks.fails("out of range goes ahead of too many", ARGUMENT, () -> grid.setShare(4, 5));
        checks.same("still none", grid.setShare(4, 0), 0);
        checks.same("still one", grid.setShare(0, 0), 1);
        checks.same("now there is one free", grid.setShare(4, 1), 0);
    }

    // Promise 3.

    private static void setSwitchAnswersWhetherItCould() {
        GridCommons grid = new GridCommons();
        for (int owner = 0; owner < 5; owner++) {
            checks.holds("could at first", grid.setSwitch(owner, false));
            checks.holds("could not", !grid.setSwitch(owner, false));
            checks.holds("still could not", !grid.setSwitch(owner, true));
            checks.holds("could again", grid.setSwitch(owner, true));
        }
        for (int owner : WRONG_OWNERS) {
            checks.fails("setSwitch of owner " + owner, ARGUMENT, () -> grid.setSwitch(owner, false));
        }
    }

    private static void aSwitchThatCannotIsNotShed() {
        GridCommons grid = new GridCommons();
        grid.setSwitch(0, false);
        checks.holds("shedding 1 is enough", !Readings.quarter(grid, 0, 50, 50, 50, 0, 0));
        read.shedsIs(grid, 0, 1, 0, 0, 0);
        read.boughtIs(grid, 0, 50, 0, 50, 0, 0);
    }

    // Promise 4.

    private static void setPriceAnswersThePrice() {
        GridCommons grid = new GridCommons();
        checks.same("setPrice(1)", grid.setPrice(1), 0.25);
        checks.same("setPrice(2)", grid.setPrice(2), 0.5);
        checks.same("setPrice(3)", grid.setPrice(3), 0.75);
        checks.same("setPrice(4)", grid.setPrice(4), 1.0);
        for (int fourths : new int[] {0, 5, -1, Integer.MIN_VALUE, Integer.MAX_VALUE}) {
            checks.fails("setPrice(" + fourths + ")", ARGUMENT, () -> grid.setPrice(fourths));
        }
        Readings.quarter(grid, 0, 8, 0, 0, 0, 0);
        read.billIs(grid, 8, 0, 0, 0, 0);
    }

    private static void thePriceOfAQuarterIsThePriceAtItsClose() {
        GridCommons grid = new GridCommons();
        grid.tell(0, 8);
        grid.setPrice(1);
        grid.close(0);
        grid.setPrice(4);
        checks.same("a bill stays", grid.bill(0), 2.0);
        checks.same("a gap has the old price", grid.replace(1, 0, 8), 2.0);
        grid.tell(0, 8);
        grid.close(0);
        checks.same("the next quarter has the new price", grid.bill(0), 10.0);
    }

    // Promise 5.

    private static void tellAnswersWhetherItWasTold() {
        GridCommons grid = new GridCommons();
        checks.holds("first", !grid.tell(2, 50));
        checks.holds("again", grid.tell(2, 0));
        checks.holds("and again", grid.tell(2, 7));
        checks.holds("another owner", !grid.tell(3, 9));
        grid.close(0);
        read.useIs(grid, 0, 0, 0, 7, 9, 0);
        checks.holds("in the next quarter", !grid.tell(2, 1));
        checks.same("the closed quarter stays", grid.use(2, 0), 7);
    }

    private static void tellKeepsTheLimits() {
        GridCommons grid = new GridCommons();
        for (int owner : WRONG_OWNERS) {
            checks.fails("tell of owner " + owner, ARGUMENT, () -> grid.tell(owner, 0));
        }
        for (int use : WRONG_USES) {
            checks.fails("tell of use " + use, ARGUMENT, () -> grid.tell(0, use));
        }
        checks.holds("nothing was told by that", !grid.tell(0, 5));
        checks.fails("told, and told wrong", ARGUMENT, () -> grid.tell(0, 51));
        grid.close(0);
        checks.same("what was told first stands", grid.use(0, 0), 5);
    }

    // Promise 6.

    private static void closeKeepsTheLimits() {
        GridCommons grid = new GridCommons();
        for (int sun : new int[] {-1, 101, Integer.MIN_VALUE, Integer.MAX_VALUE}) {
            checks.fails("close(" + sun + ")", ARGUMENT, () -> grid.close(sun));
        }
        checks.same("none is closed by that", grid.closed(), 0);
        for (int quarter = 0; quarter < 60; quarter++) {
            checks.holds("not overloaded", !grid.close(quarter == 0 ? 100 : 0));
        }
        checks.holds("told for a quarter that never comes", !grid.tell(0, 50));
        checks.holds("told again for it", grid.tell(0, 50));
        checks.fails("the 61st", STATE, () -> grid.close(0));
        checks.fails("out of range goes ahead of too many", ARGUMENT, () -> grid.close(101));
        checks.same("60 are closed", grid.closed(), 60);
        checks.holds("what was told is still there", grid.tell(0, 50));
        checks.same("the battery stays", grid.battery(), 40.0);
        checks.same("the last quarter is there", grid.use(4, 59), 0.0);
        checks.same("its gap can be replaced", grid.replace(4, 59, 50), 25.0);
    }

    private static void gapsAreFilledWithGuesses() {
        GridCommons grid = new GridCommons();
        grid.close(0);
        read.useIs(grid, 0, 0, 0, 0, 0, 0);
        grid.tell(0, 9);
        grid.close(0);
        grid.close(0);
        checks.same("one is known", grid.use(0, 2), 9.0);
        grid.tell(0, 4);
        grid.close(0);
        grid.close(0);
        checks.same("two are known", grid.use(0, 4), 6.5);
        checks.same("a guess is bought", grid.bought(0, 4), 6.5);
        grid.close(0);
        checks.same("a guess is not known", grid.use(0, 5), 6.5);
        grid.tell(0, 50);
        grid.close(0);
        grid.close(0);
        checks.same("the last two of three", grid.use(0, 7), 27.0);
        checks.same("another owner has none", grid.use(1, 7), 0.0);
    }

    private static void guessesLookAtTheLatestQuarters() {
        GridCommons grid = new GridCommons();
        Readings.quarter(grid, 0, 10, 0, 0, 0, 0);
        grid.close(0);
        grid.tell(0, 20);
        grid.close(0);
        grid.tell(0, 30);
        grid.close(0);
        grid.replace(0, 1, 50);
        grid.close(0);
        checks.same("a replaced gap of an early quarter is not the latest", grid.use(0, 4), 25.0);
        grid.replace(0, 4, 3);
        grid.close(0);
        checks.same("a replaced gap of the latest quarter counts", grid.use(0, 5), 16.5);
        grid.replace(0, 5, 0);
        checks.same("a guess that has been made is replaced alone", grid.use(0, 4), 3.0);
        grid.close(0);
        checks.same("a use of 0 is known", grid.use(0, 6), 1.5);

        GridCommons other = new GridCommons();
        other.close(0);
        other.close(0);
        other.replace(3, 0, 12);
        checks.same("guesses that have been made stay", other.use(3, 1), 0.0);
        other.close(0);
        checks.same("just one, and that is replaced", other.use(3, 2), 12.0);
    }

    private static void ownersAreShedInAJustTurn() {
        GridCommons grid = new GridCommons();
        checks.holds("100 are carried", !Readings.quarter(grid, 0, 20, 20, 20, 20, 20));
        read.shedsIs(grid, 0, 0, 0, 0, 0);
        checks.holds("150, and 0 is shed", !Readings.quarter(grid, 0, 50, 50, 50, 0, 0));
        read.shedsIs(grid, 1, 0, 0, 0, 0);
        read.boughtIs(grid, 1, 0, 50, 50, 0, 0);
        read.useIs(grid, 1, 50, 50, 50, 0, 0);
        checks.holds("150, and 1 is shed", !Readings.quarter(grid, 0, 50, 50, 50, 0, 0));
        read.shedsIs(grid, 1, 1, 0, 0, 0);
        checks.holds("250, and 2, 3 and 4 are shed", !Readings.quarter(grid, 0, 50, 50, 50, 50, 50));
        read.shedsIs(grid, 1, 1, 1, 1, 1);
        read.boughtIs(grid, 3, 50, 50, 0, 0, 0);
        checks.holds("101, and 0 is shed", !Readings.quarter(grid, 0, 1, 20, 20, 20, 40));
        read.shedsIs(grid, 2, 1, 1, 1, 1);
        checks.same("a shed owner pays nothing", grid.bought(0, 4), 0.0);
    }

    private static void onlyThoseWhoUseAreShed() {
        GridCommons grid = new GridCommons();
        Readings.quarter(grid, 0, 0, 1, 50, 50, 0);
        read.shedsIs(grid, 0, 1, 0, 0, 0);

        GridCommons guessed = new GridCommons();
        Readings.quarter(guessed, 0, 50, 50, 0, 0, 0);
        guessed.tell(2, 1);
        guessed.close(0);
        read.shedsIs(guessed, 1, 0, 0, 0, 0);
        read.useIs(guessed, 1, 50, 50, 1, 0, 0);
        guessed.close(0);
        checks.same("a use that was shed is known", guessed.use(2, 2), 0.5);
        read.shedsIs(guessed, 1, 1, 0, 0, 0);
    }

    private static void theLineIsOverloadedIfNobodyIsLeft() {
        GridCommons grid = new GridCommons();
        for (int owner = 0; owner < 3; owner++) {
            grid.setSwitch(owner, false);
        }
        checks.holds("overloaded", Readings.quarter(grid, 0, 50, 50, 1, 7, 0));
        read.shedsIs(grid, 0, 0, 0, 1, 0);
        read.boughtIs(grid, 0, 50, 50, 1, 0, 0);
        checks.holds("not overloaded at 100", !Readings.quarter(grid, 0, 50, 50, 0, 7, 7));
        read.shedsIs(grid, 0, 0, 0, 2, 1);
        grid.setSwitch(3, false);
        grid.setSwitch(4, false);
        checks.holds("none can be shed", Readings.quarter(grid, 100, 50, 50, 50, 50, 50));
        read.shedsIs(grid, 0, 0, 0, 2, 1);
        read.fromSunIs(grid, 2, 20, 20, 20, 20, 20);
    }

    // Promise 7.

    private static void closedCounts() {
        GridCommons grid = new GridCommons();
        for (int quarter = 0; quarter < 60; quarter++) {
            checks.same("closed", grid.closed(), quarter);
            grid.close(0);
        }
        checks.same("closed", grid.closed(), 60);
    }

    // Promise 8.

    private static void replaceChangesTheBill() {
        GridCommons grid = new GridCommons();
        grid.setPrice(3);
        Readings.quarter(grid, 0, 10, 10, 0, 0, 0);
        grid.close(0);
        read.billIs(grid, 15, 15, 0, 0, 0);
        grid.setPrice(4);
        checks.same("more", grid.replace(0, 1, 14), 3.0);
        checks.same("less", grid.replace(1, 1, 0), -7.5);
        checks.same("as guessed", grid.replace(2, 1, 0), 0.0);
        read.billIs(grid, 18, 7.5, 0, 0, 0);
    }

    private static void replaceLeavesTheQuarterAsItWas() {
        GridCommons grid = Readings.withFullBattery();
        Readings.quarter(grid, 4, 10, 50, 0, 0, 0);
        grid.close(6);
        read.fromSunIs(grid, 2, 1, 5, 0, 0, 0);
        double bought = grid.bought(1, 2);
        double held = grid.battery();
        int turn = grid.turn();
        checks.same("the bill of the whole use", grid.replace(1, 2, 50), 12.5);
        checks.same("bought stays", grid.bought(1, 2), bought);
        read.fromSunIs(grid, 2, 1, 5, 0, 0, 0);
        checks.same("sold stays", grid.sold(2), 0.0);
        checks.same("battery stays", grid.battery(), held);
        checks.same("turn stays", grid.turn(), turn);
        checks.same("closed stays", grid.closed(), 3);
        checks.same("other quarters stay", grid.use(1, 1), 50.0);
    }

    private static void replaceOfAShedGapCountsTheWholeUse() {
        GridCommons grid = new GridCommons();
        Readings.quarter(grid, 0, 40, 30, 30, 0, 0);
        grid.setPrice(1);
        grid.tell(1, 50);
        grid.tell(2, 50);
        grid.close(0);
        read.shedsIs(grid, 1, 0, 0, 0, 0);
        checks.same("the guess of the shed owner", grid.use(0, 1), 40.0);
        checks.same("the use of 36 less 0.0", grid.replace(0, 1, 36), 9.0);
        checks.same("bill", grid.bill(0), 29.0);
        checks.same("the use now", grid.use(0, 1), 36.0);
        checks.same("sheds stays", grid.sheds(0), 1);
    }

    private static void replaceKeepsTheLimits() {
        GridCommons grid = new GridCommons();
        checks.fails("none is closed", INDEX, () -> grid.replace(0, 0, 0));
        grid.tell(0, 5);
        grid.close(0);
        for (int owner : WRONG_OWNERS) {
            checks.fails("replace of owner " + owner, ARGUMENT, () -> grid.replace(owner, 0, 0));
            checks.fails("and of no quarter", ARGUMENT, () -> grid.replace(owner, 1, 0));
        }
        for (int use : WRONG_USES) {
            checks.fails("replace by " + use, ARGUMENT, () -> grid.replace(1, 0, use));
            checks.fails("and of no quarter", ARGUMENT, () -> grid.replace(1, -1, use));
            checks.fails("and of a use that was told", ARGUMENT, () -> grid.replace(0, 0, use));
        }
        for (int quarter : new int[] {-1, 1, 60, Integer.MIN_VALUE, Integer.MAX_VALUE}) {
            checks.fails("replace in " + quarter, INDEX, () -> grid.replace(0, quarter, 0));
        }
        checks.fails("told", STATE, () -> grid.replace(0, 0, 6));
        checks.same("nothing was changed by that", grid.use(1, 0), 0.0);
        checks.same("a gap", grid.replace(1, 0, 50), 25.0);
        checks.fails("replaced", STATE, () -> grid.replace(1, 0, 49));
        checks.same("the use stays", grid.use(1, 0), 50.0);
        checks.same("told stays", grid.use(0, 0), 5.0);
        read.billIs(grid, 2.5, 25, 0, 0, 0);
    }

    // Promise 9.

    private static void useIsWhatIsKnownNow() {
        GridCommons grid = new GridCommons();
        Readings.quarter(grid, 0, 50, 50, 49, 0, 3);
        read.useIs(grid, 0, 50, 50, 49, 0, 3);
        grid.close(0);
        read.useIs(grid, 1, 50, 50, 49, 0, 3);
        grid.replace(2, 1, 4);
        read.useIs(grid, 1, 50, 50, 4, 0, 3);
        read.useIs(grid, 0, 50, 50, 49, 0, 3);
    }

    // Promise 10.

    private static void theSunIsSharedByContract() {
        GridCommons grid = new GridCommons();
        grid.setShare(0, 1);
        grid.setShare(1, 1);
        grid.setShare(2, 2);
        Readings.quarter(grid, 10, 3, 2, 10, 10, 0);
        // By contract 2.5, 2, 5; then 0.5 is left over for the needs 0.5, 0, 5, 10.
        double left = 0.5;
        read.fromSunIs(grid, 0, 2.5 + left * 0.5 / 15.5, 2, 5 + left * 5.0 / 15.5, left * 10.0 / 15.5, 0);
        Readings.quarter(grid, 20, 3, 10, 4, 0, 2);
        // By contract 3, 5, 4; then 8 are left over for the needs 5 and 2.
        read.fromSunIs(grid, 1, 3, 10, 4, 0, 2);
        read.boughtIs(grid, 1, 0, 0, 0, 0, 0);
        checks.same("one is left over", grid.battery(), 1.0);
        grid.setShare(2, 0);
        grid.setShare(4, 2);
        Readings.quarter(grid, 8, 10, 0, 10, 0, 10);
        // By contract 2 and 4; then 2 are left over for the needs 8, 10 and 6.
        read.fromSunIs(grid, 2, 2 + 2.0 * 8.0 / 24.0, 0, 2.0 * 10.0 / 24.0, 0, 4 + 2.0 * 6.0 / 24.0);
    }

    private static void whatIsLeftIsSharedByNeed() {
        GridCommons grid = new GridCommons();
        Readings.quarter(grid, 5, 3, 4, 0, 0, 0);
        read.fromSunIs(grid, 0, 5.0 * 3.0 / 7.0, 5.0 * 4.0 / 7.0, 0, 0, 0);
        read.boughtIs(grid, 0, 3.0 - 5.0 * 3.0 / 7.0, 4.0 - 5.0 * 4.0 / 7.0, 0, 0, 0);
        checks.same("nothing is left over", grid.battery(), 0.0);
        grid.setShare(3, 4);
        Readings.quarter(grid, 60, 50, 0, 0, 50, 0);
        read.fromSunIs(grid, 1, 10, 0, 0, 50, 0);
        Readings.quarter(grid, 0, 1, 2, 3, 4, 5);
        read.fromSunIs(grid, 2, 0, 0, 0, 0, 0);
        Readings.quarter(grid, 100, 50, 50, 50, 0, 0);
        read.fromSunIs(grid, 3, 0, 50, 50, 0, 0);
    }

    private static void whatIsLeftMayJustDo() {
        GridCommons grid = Readings.withFullBattery();
        Readings.quarter(grid, 7, 3, 4, 0, 0, 0);
        read.fromSunIs(grid, 1, 3, 4, 0, 0, 0);
        read.fromBatteryIs(grid, 1, 0, 0, 0, 0, 0);
        checks.same("battery", grid.battery(), 40.0);
        checks.same("sold", grid.sold(1), 0.0);
        checks.same("turn", grid.turn(), 0);
    }

    // Promise 11.

    private static void theBatteryGives() {
        GridCommons grid = Readings.withFullBattery();
        Readings.quarter(grid, 0, 10, 0, 5, 0, 0);
        read.fromBatteryIs(grid, 1, 10, 0, 5, 0, 0);
        read.boughtIs(grid, 1, 0, 0, 0, 0, 0);
        Readings.quarter(grid, 0, 10, 10, 10, 10, 10);
        read.fromBatteryIs(grid, 2, 5, 0, 0, 10, 10);
        read.boughtIs(grid, 2, 5, 10, 10, 0, 0);
        checks.same("battery", grid.battery(), 0.0);
        Readings.quarter(grid, 0, 10, 10, 10, 10, 10);
        read.fromBatteryIs(grid, 3, 0, 0, 0, 0, 0);
        Readings.quarter(grid, 20, 0, 0, 0, 10, 0);
        read.fromBatteryIs(grid, 4, 0, 0, 0, 0, 0);
        checks.same("battery", grid.battery(), 10.0);
        Readings.quarter(grid, 2, 0, 3, 3, 0, 0);
        read.fromBatteryIs(grid, 5, 0, 2, 2, 0, 0);
        checks.same("battery", grid.battery(), 6.0);
    }

    // Promise 12.

    private static void whatIsMissingIsBought() {
        GridCommons grid = Readings.withFullBattery();
        grid.setShare(1, 4);
        Readings.quarter(grid, 10, 30, 50, 0, 0, 0);
        read.fromSunIs(grid, 1, 0, 10, 0, 0, 0);
        read.fromBatteryIs(grid, 1, 30, 10, 0, 0, 0);
        read.boughtIs(grid, 1, 0, 30, 0, 0, 0);
        Readings.quarter(grid, 0, 50, 50, 7, 0, 0);
        read.boughtIs(grid, 2, 0, 50, 7, 0, 0);
    }

    // Promise 13.

    private static void whatIsTooMuchIsSold() {
        GridCommons grid = new GridCommons();
        Readings.quarter(grid, 39, 0, 0, 0, 0, 0);
        checks.same("less than the room", grid.sold(0), 0.0);
        Readings.quarter(grid, 1, 0, 0, 0, 0, 0);
        checks.same("just the room", grid.sold(1), 0.0);
        checks.same("battery", grid.battery(), 40.0);
        Readings.quarter(grid, 1, 0, 0, 0, 0, 0);
        checks.same("no room", grid.sold(2), 1.0);
        Readings.quarter(grid, 100, 5, 6, 0, 0, 0);
        checks.same("what is left over", grid.sold(3), 89.0);
        Readings.quarter(grid, 0, 10, 0, 0, 0, 0);
        Readings.quarter(grid, 100, 0, 0, 0, 0, 20);
        checks.same("what is left over less the room", grid.sold(5), 70.0);
        checks.same("no sun", grid.sold(4), 0.0);
    }

    // Promise 14.

    private static void theBatteryHolds() {
        GridCommons grid = new GridCommons();
        Readings.quarter(grid, 30, 0, 0, 0, 0, 5);
        checks.same("charged", grid.battery(), 25.0);
        Readings.quarter(grid, 30, 0, 0, 0, 0, 15);
        checks.same("just full", grid.battery(), 40.0);
        Readings.quarter(grid, 30, 0, 0, 0, 0, 0);
        checks.same("not more", grid.battery(), 40.0);
        Readings.quarter(grid, 0, 0, 0, 0, 0, 7);
        checks.same("given", grid.battery(), 33.0);
        Readings.quarter(grid, 0, 0, 50, 0, 0, 0);
        checks.same("empty", grid.battery(), 0.0);
    }

    // Promise 15.

    private static void theTurnGoesOn() {
        GridCommons grid = Readings.withFullBattery();
        checks.same("at first", grid.turn(), 0);
        Readings.quarter(grid, 0, 1, 0, 1, 0, 0);
        checks.same("behind 2", grid.turn(), 3);
        Readings.quarter(grid, 0, 0, 0, 1, 0, 0);
        checks.same("behind 2, in a round from 3", grid.turn(), 3);
        Readings.quarter(grid, 0, 0, 1, 0, 1, 1);
        checks.same("behind 1, in a round from 3", grid.turn(), 2);
        Readings.quarter(grid, 0, 0, 0, 0, 0, 1);
        checks.same("behind 4", grid.turn(), 0);
        Readings.quarter(grid, 0, 1, 1, 1, 1, 1);
        checks.same("behind all", grid.turn(), 0);
        Readings.quarter(grid, 0, 27, 1, 1, 0, 0);
        checks.same("behind those who get", grid.turn(), 2);
        checks.same("the last one", grid.fromBattery(1, 6), 1.0);
    }

    private static void theTurnStaysIfNobodyGets() {
        GridCommons grid = Readings.withFullBattery();
        Readings.quarter(grid, 0, 1, 0, 0, 0, 0);
        Readings.quarter(grid, 0, 0, 0, 0, 0, 0);
        checks.same("nobody needs", grid.turn(), 1);
        Readings.quarter(grid, 10, 0, 0, 5, 0, 0);
        checks.same("the sun is enough", grid.turn(), 1);
        Readings.quarter(grid, 0, 0, 40, 0, 0, 0);
        checks.same("empty, behind 1", grid.turn(), 2);
        Readings.quarter(grid, 0, 1, 1, 1, 1, 1);
        checks.same("nothing to give", grid.turn(), 2);
    }

    // Promise 16.

    private static void shedsCounts() {
        GridCommons grid = new GridCommons();
        Readings.quarter(grid, 0, 50, 50, 50, 0, 50);
        read.shedsIs(grid, 1, 1, 0, 0, 0);
        Readings.quarter(grid, 100, 50, 50, 50, 0, 50);
        read.shedsIs(grid, 1, 1, 1, 0, 1);
        Readings.quarter(grid, 0, 50, 50, 0, 0, 0);
        read.shedsIs(grid, 1, 1, 1, 0, 1);
        for (int owner : WRONG_OWNERS) {
            checks.fails("sheds(" + owner + ")", ARGUMENT, () -> grid.sheds(owner));
        }
    }

    // Promise 17.

    private static void billAddsUp() {
        GridCommons grid = new GridCommons();
        grid.setPrice(4);
        Readings.quarter(grid, 100, 0, 0, 0, 0, 0);
        read.billIs(grid, -6, -6, -6, -6, -6);
        grid.setPrice(1);
        Readings.quarter(grid, 0, 48, 0, 0, 4, 0);
        read.billIs(grid, -4, -6, -6, -5, -6);
        grid.setPrice(3);
        Readings.quarter(grid, 70, 0, 10, 0, 0, 0);
        double income = 20.0 * 0.75 / 10.0;
        read.billIs(grid, -4 - income, -6 - income, -6 - income, -5 - income, -6 - income);
        for (int owner : WRONG_OWNERS) {
            checks.fails("bill(" + owner + ")", ARGUMENT, () -> grid.bill(owner));
        }
    }

    // What promises 9 to 13 have in common.

    private static void whatCameKeepsTheLimits() {
        GridCommons grid = new GridCommons();
        failAtQuarters(grid, new int[] {0, -1, 59, 60});
        grid.close(0);
        failAtQuarters(grid, new int[] {-1, 1, Integer.MIN_VALUE, Integer.MAX_VALUE});
        for (int owner : WRONG_OWNERS) {
            for (int quarter : new int[] {0, 1}) {
                checks.fails("use of owner " + owner, ARGUMENT, () -> grid.use(owner, quarter));
                checks.fails("fromSun of owner " + owner, ARGUMENT, () -> grid.fromSun(owner, quarter));
                checks.fails("fromBattery of owner " + owner, ARGUMENT, () -> grid.fromBattery(owner, quarter));
                checks.fails("bought of owner " + owner, ARGUMENT, () -> grid.bought(owner, quarter));
            }
        }
    }

    private static void failAtQuarters(GridCommons grid, int[] quarters) {
        for (int quarter : quarters) {
            checks.fails("use in " + quarter, INDEX, () -> grid.use(0, quarter));
            checks.fails("fromSun in " + quarter, INDEX, () -> grid.fromSun(4, quarter));
            checks.fails("fromBattery in " + quarter, INDEX, () -> grid.fromBattery(0, quarter));
            checks.fails("bought in " + quarter, INDEX, () -> grid.bought(4, quarter));
            checks.fails("sold in " + quarter, INDEX, () -> grid.sold(quarter));
        }
    }
}
