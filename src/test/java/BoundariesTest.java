/**
 * Tests the sentences of the document that name a number at which something begins or ends, an empty or a full one,
 * or a round that begins again: a test for each, on both sides where there are two. Beside each test stand the
 * sentence's words. The answers are worked out by hand; halves come from guesses, and are the least that the line,
 * the needs and the battery can differ by, but for what the sun leaves by fourths.
 */
public final class BoundariesTest {
    private static final Class<IllegalStateException> STATE = IllegalStateException.class;
    private static final Class<IndexOutOfBoundsException> INDEX = IndexOutOfBoundsException.class;

    private static final Checks checks = new Checks("BoundariesTest");
    private static final Readings read = new Readings(checks);

    public static void main(String[] args) {
        checks.run("at most 512 calls", BoundariesTest::the512thCallIsAnswered);
        terms();
        line();
        sun();
        battery();
        bills();
        replaced();
        checks.end();
    }

    private static void terms() {
        checks.run("a commons whose battery is empty", BoundariesTest::theBatteryIsEmptyAtFirst);
        checks.run("it is the turn of the owner 0", BoundariesTest::itIsTheTurnOf0AtFirst);
        checks.run("quarters are numbered from 0", BoundariesTest::quartersAreNumberedFrom0);
        checks.run("at most 60 are closed", BoundariesTest::theLastOfSixtyIsWhole);
        checks.run("a share of the sun, 0 at first", BoundariesTest::theShareIs0AtFirst);
        checks.run("at first each can", BoundariesTest::eachCanBeShedAtFirst);
        checks.run("the price is 0.5 at first", BoundariesTest::thePriceIsAHalfAtFirst);
        checks.run("the price is 0.25, 0.5, 0.75 or 1.0", BoundariesTest::thePriceIsInFourths);
        checks.run("the price as it is then", BoundariesTest::thePriceIsThatOfTheClosing);
        checks.run("a use from 0, or there is a gap", BoundariesTest::aUseOf0IsNoGap);
        checks.run("the quarter that is next", BoundariesTest::aUseIsToldForOneQuarter);
        checks.run("told again, it replaces what was told", BoundariesTest::theLastThatIsToldCounts);
        checks.run("told behind the 60th", BoundariesTest::whatIsToldBehindTheLastChangesNoQuarter);
        checks.run("0.0 if none is known", BoundariesTest::aGuessOfNoneIs0);
        checks.run("if just one is known, that", BoundariesTest::aGuessOfOneIsThatOne);
        checks.run("half of the sum of the last two", BoundariesTest::aGuessOfTwoIsHalfOfTheirSum);
        checks.run("the last two, if more are known", BoundariesTest::aGuessOfThreeLooksAtTwo);
        checks.run("those of the latest quarters", BoundariesTest::theLatestQuartersAreLastNotTheLatestTold);
        checks.run("known by then, told or replaced", BoundariesTest::aGuessIsNeverKnown);
        checks.run("known by then, shed or not", BoundariesTest::aShedUseThatWasToldIsKnown);
        checks.run("known by then, a shed gap", BoundariesTest::aShedGapIsKnownOnceItIsReplaced);
        checks.run("the uses of this owner", BoundariesTest::othersDoNotCountInAGuess);
        checks.run("the guess stays until the gap is replaced", BoundariesTest::theGuessStays);
    }

    private static void line() {
        checks.run("the line carries 100 units", BoundariesTest::theLineCarries100);
        checks.run("until it does not hold any more", BoundariesTest::sheddingEndsAt100);
        checks.run("a use above 0", BoundariesTest::aUseOf0IsNotShed);
        checks.run("whose switch can be shed", BoundariesTest::onlySwitchesThatCanAreShed);
        checks.run("shed the fewest times so far", BoundariesTest::theFewestTimesGoFirst);
        checks.run("of several the lowest number", BoundariesTest::theLowestNumberGoesFirst);
        checks.run("a shed owner uses 0.0", BoundariesTest::aShedOwnerGetsNothing);
        checks.run("nobody is left who can be shed", BoundariesTest::theLineIsOverloadedAbove100);
        checks.run("an overloaded line, and the quarter", BoundariesTest::anOverloadedQuarterIsClosedAllTheSame);
    }

    private static void sun() {
        checks.run("no sun", BoundariesTest::aSunOf0GivesNothing);
        checks.run("but at most the need", BoundariesTest::aShareGivesAtMostTheNeed);
        checks.run("times the own share, divided by 4.0", BoundariesTest::aShareIsInFourths);
        checks.run("what is left over is the sun less all that", BoundariesTest::allSharesAreTakenFromTheSun);
        checks.run("if the sum is 0.0, nothing happens", BoundariesTest::withoutNeedsAllIsLeftOver);
        checks.run("at most what is left over", BoundariesTest::needsUpToWhatIsLeftAreMet);
        checks.run("otherwise times the own need, divided by the sum", BoundariesTest::moreNeedsShareWhatIsLeft);
        checks.run("both parts together", BoundariesTest::bothPartsOfTheSunAreTakenAtOnce);
    }

    private static void battery() {
        checks.run("less than the room", BoundariesTest::lessThanTheRoomIsStored);
        checks.run("what is left over less the room", BoundariesTest::moreThanTheRoomIsSold);
        checks.run("a full battery", BoundariesTest::aFullBatteryHasNoRoom);
        checks.run("40.0 less what the battery holds", BoundariesTest::theRoomIsFortyLessWhatItHolds);
        checks.run("40.0 less what it holds, in doubles", BoundariesTest::theRoomIsMadeOfDoubles);
        checks.run("if 0.0 was left over", BoundariesTest::theBatteryGivesIfNothingIsLeftOver);
        checks.run("the lesser one", BoundariesTest::theBatteryGivesTheLesserOne);
        checks.run("an empty battery", BoundariesTest::anEmptyBatteryGivesNothing);
        checks.run("in a round 0, 1, 2, 3, 4", BoundariesTest::theRoundBeginsAgainBehind4);
        checks.run("the one behind the last of those who do", BoundariesTest::theTurnGoesBehindTheLastWhoGets);
        checks.run("behind 4 to 0", BoundariesTest::behind4Is0);
        checks.run("gets more than 0.0", BoundariesTest::theTurnStaysIfNobodyGetsMoreThan0);
    }

    private static void bills() {
        checks.run("each owner buys the need that is left", BoundariesTest::whoNeedsNothingBuysNothing);
        checks.run("sold times the price, divided by 10.0", BoundariesTest::eachGetsTheWholeTenth);
        checks.run("the bill, which may be below 0", BoundariesTest::theBillGoesThrough0);
    }

    private static void replaced() {
        checks.run("the true use less what the owner used", BoundariesTest::theBillChangesBothWays);
        checks.run("a shed gap", BoundariesTest::theWholeUseOfAShedGapIsPaid);
        checks.run("the price of that quarter", BoundariesTest::theOldPriceIsPaid);
        checks.run("guesses that have been made stay", BoundariesTest::laterGuessesStay);
        checks.run("the use was told", BoundariesTest::toldUsesAreNotReplaced);
        checks.run("the gap was replaced", BoundariesTest::aGapIsReplacedOnce);
        checks.run("the quarter stays as it was closed", BoundariesTest::onlyTheBillChanges);
    }

    // "An object is used for at most 512 calls after it has been made."

    private static void the512thCallIsAnswered() {
        GridCommons grid = new GridCommons();
        for (int quarter = 0; quarter < 60; quarter++) {
            Readings.quarter(grid, quarter, 1, 2, 3, 4, quarter % 51);
        }
        for (int call = 360; call < 511; call++) {
            grid.setPrice(1 + call % 4);
        }
        checks.same("the 512th call", grid.use(4, 59), 8.0);
    }

    // "Creates a commons whose battery is empty; it is the turn of the owner 0."

    private static void theBatteryIsEmptyAtFirst() {
        GridCommons grid = new GridCommons();
        checks.same("battery", grid.battery(), 0.0);
        grid.tell(0, 1);
        grid.close(0);
        read.fromBatteryIs(grid, 0, 0, 0, 0, 0, 0);
        read.boughtIs(grid, 0, 1, 0, 0, 0, 0);
    }

    private static void itIsTheTurnOf0AtFirst() {
        checks.same("turn", new GridCommons().turn(), 0);
        GridCommons grid = Readings.withBattery(3);
        Readings.quarter(grid, 0, 2, 2, 2, 2, 2);
        read.fromBatteryIs(grid, 1, 2, 1, 0, 0, 0);
    }

    // "Quarters are numbered from 0; at most 60 are closed."

    private static void quartersAreNumberedFrom0() {
        GridCommons grid = new GridCommons();
        checks.same("none is closed", grid.closed(), 0);
        checks.fails("0 is not there", INDEX, () -> grid.use(0, 0));
        grid.tell(0, 7);
        grid.close(0);
        checks.same("one is closed", grid.closed(), 1);
        checks.same("0 is the first", grid.use(0, 0), 7.0);
        checks.fails("1 is not there", INDEX, () -> grid.use(0, 1));
        grid.tell(0, 8);
        grid.close(0);
        checks.same("two are closed", grid.closed(), 2);
        checks.same("1 is the second", grid.use(0, 1), 8.0);
        checks.same("0 stays the first", grid.use(0, 0), 7.0);
    }

    private static void theLastOfSixtyIsWhole() {
        GridCommons grid = new GridCommons();
        for (int quarter = 0; quarter < 59; quarter++) {
            grid.close(0);
        }
        grid.setShare(1, 2);
        checks.holds("59 are closed, and the 60th can be", !Readings.quarter(grid, 10, 1, 7, 0, 0, 0));
        read.useIs(grid, 59, 1, 7, 0, 0, 0);
        read.fromSunIs(grid, 59, 1, 7, 0, 0, 0);
        read.fromBatteryIs(grid, 59, 0, 0, 0, 0, 0);
        read.boughtIs(grid, 59, 0, 0, 0, 0, 0);
        checks.same("sold", grid.sold(59), 0.0);
        checks.same("battery", grid.battery(), 2.0);
        checks.fails("60 are closed", STATE, () -> grid.close(10));
        checks.same("closed", grid.closed(), 60);
        checks.same("nothing more is stored", grid.battery(), 2.0);
        checks.fails("60 is not there", INDEX, () -> grid.sold(60));
    }

    // "An owner has a contract: a share of the sun, in fourths, from 0 to 4, 0 at first"

    private static void theShareIs0AtFirst() {
        GridCommons grid = new GridCommons();
        Readings.quarter(grid, 4, 4, 4, 4, 4, 0);
        read.fromSunIs(grid, 0, 1, 1, 1, 1, 0);
        for (int owner = 0; owner < 5; owner++) {
            checks.same("the share before", grid.setShare(owner, 0), 0);
        }
    }

    // "Sets whether an owner can be shed; at first each can."

    private static void eachCanBeShedAtFirst() {
        for (int owner = 0; owner < 5; owner++) {
            GridCommons grid = new GridCommons();
            for (int other = 0; other < 5; other++) {
                if (other != owner) {
                    grid.setSwitch(other, false);
                }
                grid.tell(other, 21);
            }
            checks.holds("shed, and not overloaded", !grid.close(0));
            checks.same("sheds", grid.sheds(owner), 1);
        }
    }

    // "which is 0.25, 0.5, 0.75 or 1.0, and 0.5 at first."

    private static void thePriceIsAHalfAtFirst() {
        GridCommons grid = new GridCommons();
        Readings.quarter(grid, 0, 1, 2, 0, 0, 50);
        read.billIs(grid, 0.5, 1, 0, 0, 25);
    }

    private static void thePriceIsInFourths() {
        for (int fourths = 1; fourths <= 4; fourths++) {
            GridCommons grid = new GridCommons();
            double price = fourths * 0.25;
            checks.same("the price", grid.setPrice(fourths), price);
            grid.tell(0, 50);
            grid.close(0);
            checks.same("bought for it", grid.bill(0), 50.0 * price);
            checks.same("replaced for it", grid.replace(1, 0, 8), 8.0 * price);
        }
    }

    // "The price of a quarter is the price as it is then", "for quarters that are closed from now on"

    private static void thePriceIsThatOfTheClosing() {
        GridCommons grid = new GridCommons();
        Readings.quarter(grid, 0, 4, 0, 0, 0, 0);
        grid.setPrice(4);
        checks.same("of the quarter ahead", grid.bill(0), 2.0);
        grid.tell(0, 4);
        grid.setPrice(1);
        grid.close(0);
        grid.setPrice(3);
        checks.same("of the last price ahead of the closing", grid.bill(0), 3.0);
    }

    // "For each owner the meter tells a use from 0 to 50 units, or there is a gap."

    private static void aUseOf0IsNoGap() {
        GridCommons grid = new GridCommons();
        Readings.quarter(grid, 0, 10, 10, 10, 10, 10);
        Readings.quarter(grid, 0, 0, 0, 0, 0, 0);
        grid.close(0);
        for (int owner = 0; owner < 5; owner++) {
            int who = owner;
            checks.fails("0 was told", STATE, () -> grid.replace(who, 1, 0));
            checks.same("0 is used", grid.use(owner, 1), 0.0);
            checks.same("and 0 counts in a guess", grid.use(owner, 2), 5.0);
            checks.passes("a gap", () -> grid.replace(who, 2, 0));
        }
    }

    // "Tells the use of an owner in the quarter that is next; told again, it replaces what was told."

    private static void aUseIsToldForOneQuarter() {
        GridCommons grid = new GridCommons();
        for (int owner = 0; owner < 5; owner++) {
            checks.holds("not told", !grid.tell(owner, 10));
        }
        grid.close(0);
        for (int owner = 0; owner < 5; owner++) {
            checks.holds("not told for the next one", !grid.tell(owner, 20));
            checks.holds("told for the next one", grid.tell(owner, 20));
        }
        grid.close(0);
        grid.close(0);
        read.useIs(grid, 0, 10, 10, 10, 10, 10);
        read.useIs(grid, 1, 20, 20, 20, 20, 20);
        read.useIs(grid, 2, 15, 15, 15, 15, 15);
    }

    private static void theLastThatIsToldCounts() {
        GridCommons grid = new GridCommons();
        grid.tell(1, 50);
        checks.holds("told already", grid.tell(1, 0));
        grid.tell(2, 0);
        checks.holds("told already, 0", grid.tell(2, 50));
        grid.close(0);
        read.useIs(grid, 0, 0, 0, 50, 0, 0);
        read.boughtIs(grid, 0, 0, 0, 50, 0, 0);
        grid.close(0);
        read.useIs(grid, 1, 0, 0, 50, 0, 0);
    }

    /** Promise 5 has no exception for it, so tell answers as ever; only close is refused, and nothing else changes. */
    private static void whatIsToldBehindTheLastChangesNoQuarter() {
        GridCommons grid = sixtyQuarters();
        for (int owner = 0; owner < 5; owner++) {
            checks.holds("not told", !grid.tell(owner, 50));
            checks.holds("told", grid.tell(owner, owner));
        }
        checks.fails("60 are closed", STATE, () -> grid.close(0));
        for (int owner = 0; owner < 5; owner++) {
            checks.holds("still told", grid.tell(owner, 9));
        }
        checks.fails("it never comes", INDEX, () -> grid.use(0, 60));
        checks.fails("and is no gap", INDEX, () -> grid.replace(0, 60, 9));
        read.sameAnswers("what is told", Readings.answers(grid), Readings.answers(sixtyQuarters()));
    }

    private static GridCommons sixtyQuarters() {
        GridCommons grid = new GridCommons();
        Readings.quarter(grid, 20, 1, 2, 3, 4, 5);
        for (int quarter = 1; quarter < 60; quarter++) {
            grid.close(quarter % 20);
        }
        return grid;
    }

    // "A gap is filled with a guess when the quarter is closed: half of the sum of the last two uses ..."

    private static void aGuessOfNoneIs0() {
        GridCommons grid = new GridCommons();
        checks.holds("a gap in the first quarter", !grid.close(0));
        read.useIs(grid, 0, 0, 0, 0, 0, 0);
        read.boughtIs(grid, 0, 0, 0, 0, 0, 0);
        for (int quarter = 1; quarter < 60; quarter++) {
            grid.close(0);
        }
        read.useIs(grid, 59, 0, 0, 0, 0, 0);
    }

    private static void aGuessOfOneIsThatOne() {
        GridCommons grid = new GridCommons();
        Readings.quarter(grid, 0, 50, 1, 7, 0, 3);
        for (int quarter = 1; quarter < 60; quarter++) {
            grid.close(0);
        }
        read.useIs(grid, 1, 50, 1, 7, 0, 3);
        read.useIs(grid, 59, 50, 1, 7, 0, 3);
    }

    private static void aGuessOfTwoIsHalfOfTheirSum() {
        GridCommons grid = new GridCommons();
        Readings.quarter(grid, 0, 1, 0, 50, 8, 0);
        Readings.quarter(grid, 0, 2, 1, 0, 8, 0);
        grid.close(0);
        read.useIs(grid, 2, 1.5, 0.5, 25, 8, 0);
        read.boughtIs(grid, 2, 1.5, 0.5, 25, 8, 0);
        for (int quarter = 3; quarter < 60; quarter++) {
            grid.close(0);
        }
        read.useIs(grid, 59, 1.5, 0.5, 25, 8, 0);
    }

    private static void aGuessOfThreeLooksAtTwo() {
        GridCommons grid = new GridCommons();
        Readings.quarter(grid, 0, 40, 0, 9, 1, 16);
        Readings.quarter(grid, 0, 10, 3, 9, 2, 16);
        Readings.quarter(grid, 0, 4, 4, 0, 4, 16);
        grid.close(0);
        read.useIs(grid, 3, 7, 3.5, 4.5, 3, 16);
    }

    private static void theLatestQuartersAreLastNotTheLatestTold() {
        GridCommons grid = new GridCommons();
        grid.close(0);
        Readings.quarter(grid, 0, 10, 0, 0, 0, 0);
        Readings.quarter(grid, 0, 20, 0, 0, 0, 0);
        grid.close(0);
        grid.replace(0, 0, 50);
        grid.close(0);
        checks.same("replaced ahead of both", grid.use(0, 4), 15.0);
        grid.replace(0, 3, 30);
        grid.close(0);
        checks.same("replaced behind both", grid.use(0, 5), 25.0);
        checks.same("the quarter between stays a guess", grid.use(0, 4), 15.0);
        grid.replace(0, 4, 1);
        grid.close(0);
        checks.same("replaced behind that", grid.use(0, 6), 15.5);
    }

    private static void aGuessIsNeverKnown() {
        GridCommons grid = new GridCommons();
        Readings.quarter(grid, 0, 10, 10, 0, 0, 0);
        grid.close(0);
        Readings.quarter(grid, 0, 30, 0, 0, 0, 0);
        grid.close(0);
        checks.same("10, a gap, 30", grid.use(0, 3), 20.0);
        grid.replace(0, 1, 40);
        grid.close(0);
        checks.same("10, 40 in place of the gap, 30", grid.use(0, 4), 35.0);
        checks.same("10, a gap, 0", grid.use(1, 4), 5.0);
    }

    // "known by then, told or replaced", "as it is known now, whether shed or not": being shed makes no use unknown.

    private static void aShedUseThatWasToldIsKnown() {
        GridCommons grid = new GridCommons();
        Readings.quarter(grid, 0, 30, 50, 50, 0, 0);
        read.shedsIs(grid, 1, 0, 0, 0, 0);
        checks.same("shed", grid.bought(0, 0), 0.0);
        checks.same("the use that was told", grid.use(0, 0), 30.0);
        tellNothingBut0(grid);
        checks.same("just one is known, and that was shed", grid.use(0, 1), 30.0);
        checks.same("it was not shed again", grid.bought(0, 1), 30.0);
        Readings.quarter(grid, 0, 11, 0, 0, 0, 0);
        tellNothingBut0(grid);
        checks.same("30, which was shed, and 11", grid.use(0, 3), 20.5);
        for (int other = 1; other < 5; other++) {
            grid.setSwitch(other, false);
        }
        Readings.quarter(grid, 0, 4, 50, 50, 0, 0);
        read.shedsIs(grid, 2, 0, 0, 0, 0);
        tellNothingBut0(grid);
        checks.same("11 and 4, which was shed", grid.use(0, 5), 7.5);
    }

    private static void aShedGapIsKnownOnceItIsReplaced() {
        GridCommons grid = new GridCommons();
        Readings.quarter(grid, 0, 8, 0, 0, 0, 0);
        tellThree(grid, 2, 0, 0);
        grid.close(0);
        grid.tell(1, 50);
        grid.tell(2, 50);
        grid.close(0);
        read.shedsIs(grid, 1, 0, 0, 0, 0);
        checks.same("the guess that was shed", grid.use(0, 2), 5.0);
        tellNothingBut0(grid);
        checks.same("it is not known, neither as 5.0 nor as 0.0", grid.use(0, 3), 5.0);
        checks.same("the whole use", grid.replace(0, 2, 20), 10.0);
        tellNothingBut0(grid);
        checks.same("2, and 20 in place of the shed gap", grid.use(0, 4), 11.0);
    }

    /** The next quarter is closed with a gap of owner 0 alone; the others use nothing. */
    private static void tellNothingBut0(GridCommons grid) {
        for (int other = 1; other < 5; other++) {
            grid.tell(other, 0);
        }
        grid.close(0);
    }

    // "the uses of this owner"

    private static void othersDoNotCountInAGuess() {
        for (int owner = 0; owner < 5; owner++) {
            GridCommons grid = new GridCommons();
            Readings.quarter(grid, 0, 1, 2, 3, 4, 5);
            for (int other = 0; other < 5; other++) {
                if (other != owner) {
                    grid.tell(other, 15);
                }
            }
            grid.close(0);
            checks.same("the guess", grid.use(owner, 1), owner + 1.0);
        }
    }

    // "The guess stays until the gap is replaced."

    private static void theGuessStays() {
        GridCommons grid = new GridCommons();
        Readings.quarter(grid, 0, 6, 0, 0, 0, 0);
        grid.close(0);
        checks.same("the guess", grid.use(0, 1), 6.0);
        Readings.quarter(grid, 0, 50, 0, 0, 0, 0);
        checks.same("a later use", grid.use(0, 1), 6.0);
        grid.close(0);
        grid.replace(0, 3, 9);
        checks.same("a later gap that is replaced", grid.use(0, 1), 6.0);
        grid.replace(0, 1, 0);
        checks.same("replaced", grid.use(0, 1), 0.0);
    }

    // "The line carries 100 units. If all uses and guesses together are more than that, owners are shed"

    private static void theLineCarries100() {
        GridCommons told = new GridCommons();
        checks.holds("50 and 50", !Readings.quarter(told, 0, 50, 50, 0, 0, 0));
        checks.holds("five times 20", !Readings.quarter(told, 0, 20, 20, 20, 20, 20));
        read.shedsIs(told, 0, 0, 0, 0, 0);
        checks.holds("101", !Readings.quarter(told, 0, 20, 20, 20, 20, 21));
        read.shedsIs(told, 1, 0, 0, 0, 0);

        GridCommons guessed = withHalfGuesses();
        tellThree(guessed, 50, 49, 0);
        guessed.close(0);
        read.shedsIs(guessed, 0, 0, 0, 0, 0);
        tellThree(guessed, 50, 49, 1);
        checks.holds("100.5, and one is shed", !guessed.close(0));
        read.shedsIs(guessed, 1, 0, 0, 0, 0);
        read.boughtIs(guessed, 3, 0, 49, 1, 0.5, 0);

        GridCommons halves = new GridCommons();
        Readings.quarter(halves, 0, 0, 0, 0, 1, 1);
        Readings.quarter(halves, 0, 0, 0, 0, 0, 0);
        tellThree(halves, 50, 49, 0);
        checks.holds("100 with two halves", !halves.close(0));
        read.shedsIs(halves, 0, 0, 0, 0, 0);
    }

    /** Two quarters are closed, and the guesses of owner 3 and 4 are 0.5 and 0.0 from now on. */
    private static GridCommons withHalfGuesses() {
        GridCommons grid = new GridCommons();
        Readings.quarter(grid, 0, 0, 0, 0, 1, 0);
        Readings.quarter(grid, 0, 0, 0, 0, 0, 0);
        return grid;
    }

    private static void tellThree(GridCommons grid, int of0, int of1, int of2) {
        grid.tell(0, of0);
        grid.tell(1, of1);
        grid.tell(2, of2);
    }

    // "one after the other, until it does not hold any more"

    private static void sheddingEndsAt100() {
        GridCommons grid = new GridCommons();
        Readings.quarter(grid, 0, 1, 50, 50, 0, 0);
        read.shedsIs(grid, 1, 0, 0, 0, 0);

        GridCommons more = new GridCommons();
        Readings.quarter(more, 0, 1, 50, 50, 1, 0);
        read.shedsIs(more, 1, 1, 0, 0, 0);
        read.boughtIs(more, 0, 0, 0, 50, 1, 0);

        GridCommons half = withHalfGuesses();
        tellThree(half, 30, 50, 50);
        half.close(0);
        read.shedsIs(half, 1, 1, 0, 0, 0);

        GridCommons three = new GridCommons();
        checks.holds("250", !Readings.quarter(three, 0, 50, 50, 50, 50, 50));
        read.shedsIs(three, 1, 1, 1, 0, 0);
        checks.holds("200", !Readings.quarter(three, 0, 0, 50, 50, 50, 50));
        read.shedsIs(three, 1, 1, 1, 1, 1);
    }

    // "always the one with a use above 0"

    private static void aUseOf0IsNotShed() {
        GridCommons grid = new GridCommons();
        Readings.quarter(grid, 0, 0, 50, 50, 50, 0);
        read.shedsIs(grid, 0, 1, 0, 0, 0);

        GridCommons guessOf0 = new GridCommons();
        guessOf0.tell(1, 50);
        guessOf0.tell(2, 50);
        guessOf0.tell(3, 50);
        guessOf0.close(0);
        read.shedsIs(guessOf0, 0, 1, 0, 0, 0);

        GridCommons least = new GridCommons();
        Readings.quarter(least, 0, 1, 50, 50, 50, 0);
        read.shedsIs(least, 1, 1, 0, 0, 0);

        GridCommons half = new GridCommons();
        Readings.quarter(half, 0, 1, 0, 0, 0, 0);
        Readings.quarter(half, 0, 0, 0, 0, 0, 0);
        half.tell(1, 50);
        half.tell(2, 50);
        half.close(0);
        read.shedsIs(half, 1, 0, 0, 0, 0);
        checks.same("the guess that was shed", half.use(0, 2), 0.5);
        checks.same("it is not bought", half.bought(0, 2), 0.0);
    }

    // "of those whose switch can be shed"

    private static void onlySwitchesThatCanAreShed() {
        for (int owner = 0; owner < 5; owner++) {
            GridCommons grid = new GridCommons();
            grid.setSwitch(owner, false);
            Readings.quarter(grid, 0, 50, 50, 50, 50, 50);
            checks.same("cannot be shed", grid.sheds(owner), 0);
            checks.same("and buys", grid.bought(owner, 0), 50.0);
            grid.setSwitch(owner, true);
            for (int quarter = 1; quarter < 3; quarter++) {
                Readings.quarter(grid, 0, 50, 50, 50, 50, 50);
            }
            checks.holds("can be shed again", grid.sheds(owner) > 0);
        }
    }

    // "who has been shed the fewest times so far"

    private static void theFewestTimesGoFirst() {
        GridCommons grid = new GridCommons();
        Readings.quarter(grid, 0, 50, 50, 50, 0, 0);
        Readings.quarter(grid, 0, 50, 50, 50, 0, 0);
        Readings.quarter(grid, 0, 50, 50, 0, 50, 0);
        read.shedsIs(grid, 1, 1, 0, 1, 0);
        Readings.quarter(grid, 0, 50, 50, 0, 50, 0);
        read.shedsIs(grid, 2, 1, 0, 1, 0);
        Readings.quarter(grid, 0, 50, 0, 0, 50, 50);
        read.shedsIs(grid, 2, 1, 0, 1, 1);
        Readings.quarter(grid, 0, 50, 0, 0, 50, 50);
        read.shedsIs(grid, 2, 1, 0, 2, 1);
        Readings.quarter(grid, 0, 50, 0, 0, 50, 50);
        read.shedsIs(grid, 2, 1, 0, 2, 2);
    }

    // "of several the one with the lowest number"

    private static void theLowestNumberGoesFirst() {
        GridCommons grid = new GridCommons();
        Readings.quarter(grid, 0, 21, 21, 21, 21, 21);
        read.shedsIs(grid, 1, 0, 0, 0, 0);
        Readings.quarter(grid, 0, 21, 21, 21, 21, 21);
        read.shedsIs(grid, 1, 1, 0, 0, 0);
        Readings.quarter(grid, 0, 21, 21, 21, 21, 21);
        Readings.quarter(grid, 0, 21, 21, 21, 21, 21);
        read.shedsIs(grid, 1, 1, 1, 1, 0);
        Readings.quarter(grid, 0, 21, 21, 21, 21, 21);
        read.shedsIs(grid, 1, 1, 1, 1, 1);
        Readings.quarter(grid, 0, 21, 21, 21, 21, 21);
        read.shedsIs(grid, 2, 1, 1, 1, 1);
        checks.same("the greatest use does not matter", grid.bought(4, 5), 21.0);
        Readings.quarter(grid, 0, 0, 1, 50, 50, 0);
        read.shedsIs(grid, 2, 2, 1, 1, 1);
    }

    // "A shed owner uses 0.0 in this quarter, and counts as 0.0 for the line."

    private static void aShedOwnerGetsNothing() {
        GridCommons grid = Readings.withBattery(10);
        grid.setShare(0, 4);
        Readings.quarter(grid, 40, 50, 50, 50, 0, 0);
        read.shedsIs(grid, 1, 0, 0, 0, 0);
        read.fromSunIs(grid, 1, 0, 20, 20, 0, 0);
        read.fromBatteryIs(grid, 1, 0, 10, 0, 0, 0);
        read.boughtIs(grid, 1, 0, 20, 30, 0, 0);
        checks.same("the turn goes behind 1, for 0 got nothing", grid.turn(), 2);
        read.billIs(grid, 0, 10, 15, 0, 0);
        read.useIs(grid, 1, 50, 50, 50, 0, 0);

        GridCommons sold = Readings.withFullBattery();
        Readings.quarter(sold, 100, 1, 50, 50, 0, 0);
        read.shedsIs(sold, 1, 0, 0, 0, 0);
        checks.same("the shed unit is not left over", sold.sold(1), 0.0);
        Readings.quarter(sold, 100, 0, 50, 1, 50, 0);
        read.shedsIs(sold, 1, 1, 0, 0, 0);
        checks.same("the shed units are left over", sold.sold(2), 49.0);
        // The bill of each owner becomes less by what is sold, and a shed owner's too.
        double less = 0.0 - 49.0 * 0.5 / 10.0;
        read.billIs(sold, less, less, less, less, less);
    }

    // "If it still holds and nobody is left who can be shed, the line is overloaded."

    private static void theLineIsOverloadedAbove100() {
        GridCommons grid = new GridCommons();
        grid.setSwitch(0, false);
        grid.setSwitch(1, false);
        grid.setSwitch(2, false);
        checks.holds("100 stay", !Readings.quarter(grid, 0, 50, 50, 0, 1, 0));
        checks.holds("101 stay", Readings.quarter(grid, 0, 50, 50, 1, 1, 0));
        read.shedsIs(grid, 0, 0, 0, 2, 0);
        checks.holds("100 are not too much", !Readings.quarter(grid, 0, 50, 49, 1, 0, 0));
        checks.holds("101 are, and nobody can be shed", Readings.quarter(grid, 0, 50, 50, 1, 0, 0));
        checks.holds("not in the next quarter", !Readings.quarter(grid, 0, 0, 0, 0, 0, 0));

        GridCommons half = withHalfGuesses();
        half.setSwitch(0, false);
        half.setSwitch(1, false);
        half.setSwitch(3, false);
        tellThree(half, 50, 50, 20);
        checks.holds("100.5 stay", half.close(0));
        read.shedsIs(half, 0, 0, 1, 0, 0);
        tellThree(half, 50, 49, 20);
        checks.holds("99.5 stay", !half.close(0));
        half.setSwitch(3, true);
        tellThree(half, 50, 50, 0);
        checks.holds("the half is shed", !half.close(0));
        read.shedsIs(half, 0, 0, 2, 1, 0);
    }

    private static void anOverloadedQuarterIsClosedAllTheSame() {
        GridCommons grid = new GridCommons();
        for (int owner = 0; owner < 5; owner++) {
            grid.setSwitch(owner, false);
        }
        grid.setShare(3, 1);
        checks.holds("overloaded", Readings.quarter(grid, 100, 50, 50, 50, 50, 50));
        checks.same("closed", grid.closed(), 1);
        double part = 75.0 * 50.0 / 225.0;
        double halfPart = 75.0 * 25.0 / 225.0;
        read.fromSunIs(grid, 0, part, part, part, 25.0 + halfPart, part);
        double rest = 50.0 - part;
        read.boughtIs(grid, 0, rest, rest, rest, 25.0 - halfPart, rest);
        read.shedsIs(grid, 0, 0, 0, 0, 0);
    }

    // "In each quarter the sun gives from 0 to 100 units."

    private static void aSunOf0GivesNothing() {
        GridCommons grid = new GridCommons();
        grid.setShare(0, 4);
        Readings.quarter(grid, 0, 1, 2, 0, 0, 0);
        read.fromSunIs(grid, 0, 0, 0, 0, 0, 0);
        read.boughtIs(grid, 0, 1, 2, 0, 0, 0);
        checks.same("sold", grid.sold(0), 0.0);
        checks.same("battery", grid.battery(), 0.0);
        Readings.quarter(grid, 1, 1, 2, 0, 0, 0);
        read.fromSunIs(grid, 1, 1, 0, 0, 0, 0);
        Readings.quarter(grid, 100, 50, 50, 0, 0, 0);
        read.fromSunIs(grid, 2, 50, 50, 0, 0, 0);
        read.boughtIs(grid, 2, 0, 0, 0, 0, 0);
    }

    // "each owner gets the sun times the own share, divided by 4.0, but at most the need"

    private static void aShareGivesAtMostTheNeed() {
        for (int share = 1; share <= 4; share++) {
            GridCommons grid = new GridCommons();
            grid.setShare(2, share);
            // The others need so much that each unit which the share does not take is gone.
            Readings.quarter(grid, 8, 0, 50, 2 * share, 0, 0);
            read.fromSunIs(grid, 0, 0, 8.0 - 2.0 * share, 2.0 * share, 0, 0);
            Readings.quarter(grid, 8, 0, 50, 2 * share - 1, 0, 0);
            read.fromSunIs(grid, 1, 0, 9.0 - 2.0 * share, 2.0 * share - 1.0, 0, 0);
            Readings.quarter(grid, 8, 0, 49, 2 * share + 1, 0, 0);
            double left = 8.0 - 2.0 * share;
            read.fromSunIs(grid, 2, 0, left * 49.0 / 50.0, 2.0 * share + left * 1.0 / 50.0, 0, 0);
        }
    }

    private static void aShareIsInFourths() {
        GridCommons grid = new GridCommons();
        grid.setShare(0, 1);
        grid.setShare(4, 3);
        Readings.quarter(grid, 1, 50, 0, 0, 0, 50);
        read.fromSunIs(grid, 0, 0.25, 0, 0, 0, 0.75);
        Readings.quarter(grid, 99, 50, 0, 0, 0, 50);
        read.fromSunIs(grid, 1, 24.75 + 24.25, 0, 0, 0, 50);
        Readings.quarter(grid, 3, 50, 50, 0, 0, 0);
        double left = 2.25;
        read.fromSunIs(grid, 2, 0.75 + left * 49.25 / 99.25, left * 50.0 / 99.25, 0, 0, 0);
    }

    // "what is left over is the sun less all that, one after the other taken from it"

    private static void allSharesAreTakenFromTheSun() {
        GridCommons grid = new GridCommons();
        for (int owner = 0; owner < 4; owner++) {
            grid.setShare(owner, 1);
        }
        Readings.quarter(grid, 40, 10, 10, 10, 10, 10);
        read.fromSunIs(grid, 0, 10, 10, 10, 10, 0);
        checks.same("nothing is left over", grid.battery(), 0.0);
        Readings.quarter(grid, 40, 9, 10, 10, 10, 10);
        read.fromSunIs(grid, 1, 9, 10, 10, 10, 1);
        read.boughtIs(grid, 1, 0, 0, 0, 0, 9);
        Readings.quarter(grid, 40, 9, 8, 7, 6, 0);
        checks.same("10 are left over", grid.battery(), 10.0);
    }

    // "Then, with the sum of all needs: if that is 0.0, nothing happens"

    private static void withoutNeedsAllIsLeftOver() {
        GridCommons grid = new GridCommons();
        Readings.quarter(grid, 30, 0, 0, 0, 0, 0);
        read.fromSunIs(grid, 0, 0, 0, 0, 0, 0);
        checks.same("all is left over", grid.battery(), 30.0);
        Readings.quarter(grid, 0, 0, 0, 0, 0, 0);
        read.fromSunIs(grid, 1, 0, 0, 0, 0, 0);
        read.boughtIs(grid, 1, 0, 0, 0, 0, 0);
        checks.same("no sun and no need", grid.battery(), 30.0);
        grid.setShare(1, 2);
        Readings.quarter(grid, 8, 0, 4, 0, 0, 0);
        read.fromSunIs(grid, 2, 0, 4, 0, 0, 0);
        checks.same("no need behind the shares", grid.battery(), 34.0);
        grid.setShare(1, 4);
        Readings.quarter(grid, 4, 0, 4, 0, 0, 0);
        checks.same("no need, and nothing is left over", grid.battery(), 34.0);
    }

    // "if it is at most what is left over, it is taken from what is left over, and each owner gets the need"

    private static void needsUpToWhatIsLeftAreMet() {
        GridCommons grid = new GridCommons();
        grid.setShare(0, 1);
        Readings.quarter(grid, 12, 2, 3, 0, 6, 0);
        read.fromSunIs(grid, 0, 2, 3, 0, 6, 0);
        read.boughtIs(grid, 0, 0, 0, 0, 0, 0);
        checks.same("one is left over", grid.battery(), 1.0);
        Readings.quarter(grid, 12, 2, 3, 0, 7, 0);
        read.fromSunIs(grid, 1, 2, 3, 0, 7, 0);
        read.boughtIs(grid, 1, 0, 0, 0, 0, 0);
        checks.same("just what is left over", grid.battery(), 1.0);
        Readings.quarter(grid, 12, 2, 3, 0, 8, 0);
        double left = 10.0;
        read.fromSunIs(grid, 2, 2, left * 3.0 / 11.0, 0, left * 8.0 / 11.0, 0);
    }

    // "otherwise each owner gets what is left over times the own need, divided by the sum, and nothing is left over"

    private static void moreNeedsShareWhatIsLeft() {
        GridCommons grid = new GridCommons();
        Readings.quarter(grid, 7, 11, 9, 0, 0, 0);
        // Divided first, and then times the need or what is left over, both make another double of it.
        read.fromSunIs(grid, 0, 7.0 * 11.0 / 20.0, 7.0 * 9.0 / 20.0, 0, 0, 0);
        checks.same("that is", grid.fromSun(0, 0), 3.85);
        checks.same("nothing is left over", grid.battery(), 0.0);
        checks.same("and nothing is sold", grid.sold(0), 0.0);
        Readings.quarter(grid, 1, 0, 0, 50, 0, 50);
        read.fromSunIs(grid, 1, 0, 0, 0.5, 0, 0.5);

        GridCommons half = withHalfGuesses();
        tellThree(half, 0, 9, 0);
        half.close(9);
        read.fromSunIs(half, 2, 0, 9.0 * 9.0 / 9.5, 0, 9.0 * 0.5 / 9.5, 0);
        checks.same("a half is too much", half.battery(), 0.0);
        tellThree(half, 0, 9, 0);
        half.close(10);
        read.fromSunIs(half, 3, 0, 9, 0, 0.5, 0);
        checks.same("a half is left over", half.battery(), 0.5);
    }

    // "whatever the owner gets is taken from it at once", "both parts of step 2 together"

    private static void bothPartsOfTheSunAreTakenAtOnce() {
        GridCommons grid = new GridCommons();
        grid.setShare(0, 1);
        Readings.quarter(grid, 1, 1, 1, 0, 0, 0);
        double second = 0.75 * 0.75 / 1.75;
        double other = 0.75 * 1.0 / 1.75;
        read.fromSunIs(grid, 0, 0.25 + second, other, 0, 0, 0);
        read.boughtIs(grid, 0, 1.0 - 0.25 - second, 1.0 - other, 0, 0, 0);
    }

    // "If what is left over is less than the room, the battery holds that more, and 0.0 is sold"

    private static void lessThanTheRoomIsStored() {
        GridCommons grid = new GridCommons();
        grid.close(0);
        checks.same("nothing is left over", grid.battery(), 0.0);
        grid.close(39);
        checks.same("39", grid.battery(), 39.0);
        checks.same("nothing is sold", grid.sold(1), 0.0);
        Readings.quarter(grid, 1, 0, 0, 0, 1, 0);
        Readings.quarter(grid, 1, 0, 0, 0, 0, 0);
        checks.same("39 and 1", grid.battery(), 40.0);
        checks.same("nothing is sold", grid.sold(3), 0.0);
        read.billIs(grid, 0, 0, 0, 0, 0);

        GridCommons half = withHalfGuesses();
        half.close(40);
        checks.same("39.5", half.battery(), 39.5);
        checks.same("nothing is sold", half.sold(2), 0.0);
    }

    // "otherwise the battery holds 40.0 then, and what is left over less the room is sold"

    private static void moreThanTheRoomIsSold() {
        GridCommons just = new GridCommons();
        just.close(40);
        checks.same("just full", just.battery(), 40.0);
        checks.same("nothing is sold", just.sold(0), 0.0);

        GridCommons more = new GridCommons();
        more.close(41);
        checks.same("full", more.battery(), 40.0);
        checks.same("one is sold", more.sold(0), 1.0);

        GridCommons half = withHalfGuesses();
        half.close(41);
        checks.same("full", half.battery(), 40.0);
        checks.same("a half is sold", half.sold(2), 0.5);

        GridCommons most = new GridCommons();
        most.close(100);
        checks.same("full", most.battery(), 40.0);
        checks.same("60 are sold", most.sold(0), 60.0);
    }

    private static void aFullBatteryHasNoRoom() {
        GridCommons grid = Readings.withFullBattery();
        Readings.quarter(grid, 0, 0, 0, 0, 0, 0);
        checks.same("no sun", grid.battery(), 40.0);
        checks.same("nothing is sold", grid.sold(1), 0.0);
        Readings.quarter(grid, 5, 5, 0, 0, 0, 0);
        checks.same("no sun is left over", grid.battery(), 40.0);
        checks.same("nothing is sold", grid.sold(2), 0.0);
        Readings.quarter(grid, 1, 0, 0, 0, 0, 0);
        checks.same("one is left over", grid.battery(), 40.0);
        checks.same("all is sold", grid.sold(3), 1.0);
        Readings.quarter(grid, 100, 0, 0, 0, 0, 0);
        checks.same("all is sold", grid.sold(4), 100.0);
        read.billIs(grid, -5.05, -5.05, -5.05, -5.05, -5.05);
    }

    // "The room is 40.0 less what the battery holds."

    private static void theRoomIsFortyLessWhatItHolds() {
        GridCommons grid = Readings.withBattery(30);
        Readings.quarter(grid, 9, 0, 0, 0, 0, 0);
        checks.same("less than the room of 10", grid.battery(), 39.0);
        checks.same("nothing is sold", grid.sold(1), 0.0);
        Readings.quarter(grid, 0, 9, 0, 0, 0, 0);
        Readings.quarter(grid, 10, 0, 0, 0, 0, 0);
        checks.same("just the room of 10", grid.battery(), 40.0);
        checks.same("nothing is sold", grid.sold(3), 0.0);
        Readings.quarter(grid, 0, 10, 0, 0, 0, 0);
        Readings.quarter(grid, 11, 0, 0, 0, 0, 0);
        checks.same("more than the room of 10", grid.battery(), 40.0);
        checks.same("one is sold", grid.sold(5), 1.0);

        GridCommons half = withHalfGuesses();
        half.close(40);
        checks.same("a room of a half", half.battery(), 39.5);
        half.close(1);
        checks.same("just that half", half.battery(), 40.0);
        checks.same("nothing is sold", half.sold(3), 0.0);
        half.close(0);
        checks.same("a room of a half again", half.battery(), 39.5);
        half.close(2);
        checks.same("full", half.battery(), 40.0);
        checks.same("one and a half less the half", half.sold(5), 1.0);
    }

    private static void theRoomIsMadeOfDoubles() {
        GridCommons grid = Readings.withFullBattery();
        Readings.quarter(grid, 1, 1, 3, 7, 0, 0);
        double held = 40.0 - (1.0 - 1.0 * 1.0 / 11.0) - (3.0 - 1.0 * 3.0 / 11.0) - (7.0 - 1.0 * 7.0 / 11.0);
        checks.same("what it holds", grid.battery(), held);
        Readings.quarter(grid, 1, 0, 0, 0, 0, 0);
        checks.same("less than the room", grid.battery(), held + 1.0);
        Readings.quarter(grid, 20, 0, 0, 0, 0, 0);
        checks.same("more than the room", grid.battery(), 40.0);
        // What it holds and what is left over, less 40.0, make another double.
        checks.same("what is left over less the room", grid.sold(3), 20.0 - (40.0 - (held + 1.0)));
        checks.same("that is", grid.sold(3), 11.000000000000004);
    }

    // "If 0.0 was left over ahead of step 3, the battery gives"

    private static void theBatteryGivesIfNothingIsLeftOver() {
        GridCommons grid = Readings.withBattery(20);
        Readings.quarter(grid, 1, 2, 0, 0, 0, 0);
        read.fromBatteryIs(grid, 1, 1, 0, 0, 0, 0);
        checks.same("one is given", grid.battery(), 19.0);
        checks.same("the turn goes on", grid.turn(), 1);
        Readings.quarter(grid, 2, 2, 0, 0, 0, 0);
        read.fromBatteryIs(grid, 2, 0, 0, 0, 0, 0);
        checks.same("the sun just does", grid.battery(), 19.0);
        Readings.quarter(grid, 3, 2, 0, 0, 0, 0);
        read.fromBatteryIs(grid, 3, 0, 0, 0, 0, 0);
        checks.same("one is left over, and stored", grid.battery(), 20.0);
        checks.same("the turn stays", grid.turn(), 1);
    }

    // "the lesser one of the need and of what it holds"

    private static void theBatteryGivesTheLesserOne() {
        int[] needs = {9, 10, 11};
        double[] given = {9.0, 10.0, 10.0};
        double[] bought = {0.0, 0.0, 1.0};
        for (int i = 0; i < needs.length; i++) {
            GridCommons grid = Readings.withBattery(10);
            Readings.quarter(grid, 0, 0, 0, 0, needs[i], 0);
            read.fromBatteryIs(grid, 1, 0, 0, 0, given[i], 0);
            read.boughtIs(grid, 1, 0, 0, 0, bought[i], 0);
            checks.same("the battery", grid.battery(), 10.0 - given[i]);
        }
        GridCommons all = Readings.withFullBattery();
        Readings.quarter(all, 0, 8, 8, 8, 8, 8);
        read.fromBatteryIs(all, 1, 8, 8, 8, 8, 8);
        read.boughtIs(all, 1, 0, 0, 0, 0, 0);
        GridCommons most = Readings.withFullBattery();
        Readings.quarter(most, 0, 50, 50, 0, 0, 0);
        read.fromBatteryIs(most, 1, 40, 0, 0, 0, 0);
        read.boughtIs(most, 1, 10, 50, 0, 0, 0);
    }

    private static void anEmptyBatteryGivesNothing() {
        GridCommons grid = Readings.withBattery(10);
        Readings.quarter(grid, 0, 6, 4, 5, 0, 5);
        read.fromBatteryIs(grid, 1, 6, 4, 0, 0, 0);
        read.boughtIs(grid, 1, 0, 0, 5, 0, 5);
        checks.same("empty", grid.battery(), 0.0);
        Readings.quarter(grid, 0, 6, 4, 5, 0, 5);
        read.fromBatteryIs(grid, 2, 0, 0, 0, 0, 0);
        read.boughtIs(grid, 2, 6, 4, 5, 0, 5);
        checks.same("still empty", grid.battery(), 0.0);
        Readings.quarter(grid, 40, 0, 0, 0, 0, 0);
        checks.same("it has all of its room", grid.battery(), 40.0);
        checks.same("and nothing is sold", grid.sold(3), 0.0);
    }

    // "to the one whose turn it is ..., then to the next one, and so on, each once, in a round 0, 1, 2, 3, 4"

    private static void theRoundBeginsAgainBehind4() {
        for (int turn = 0; turn < 5; turn++) {
            GridCommons grid = withTurn(turn);
            checks.same("the turn", grid.turn(), turn);
            double[] due = new double[5];
            due[turn] = 20.0;
            due[(turn + 1) % 5] = 19.0;
            Readings.quarter(grid, 0, 20, 20, 20, 20, 20);
            read.fromBatteryIs(grid, 2, due);
            checks.same("behind the two who got", grid.turn(), (turn + 2) % 5);
        }
        for (int turn = 0; turn < 5; turn++) {
            GridCommons grid = withTurn(turn);
            Readings.quarter(grid, 0, 7, 7, 7, 7, 7);
            read.fromBatteryIs(grid, 2, 7, 7, 7, 7, 7);
            checks.same("each got once", grid.battery(), 4.0);
            checks.same("once around", grid.turn(), turn);
        }
    }

    /** Two quarters are closed, the battery holds 39, and the turn is that of the owner. */
    private static GridCommons withTurn(int owner) {
        GridCommons grid = Readings.withFullBattery();
        grid.tell((owner + 4) % 5, 1);
        grid.close(0);
        return grid;
    }

    // "the turn goes to the one behind the last of those who do"

    private static void theTurnGoesBehindTheLastWhoGets() {
        GridCommons grid = Readings.withFullBattery();
        Readings.quarter(grid, 0, 1, 0, 1, 0, 0);
        checks.same("the last who needs", grid.turn(), 3);
        Readings.quarter(grid, 0, 0, 1, 0, 0, 1);
        checks.same("the last in the round, not in the numbers", grid.turn(), 2);
        Readings.quarter(grid, 0, 0, 0, 16, 20, 1);
        checks.same("the last who gets, not who needs", grid.turn(), 4);
        checks.same("it got all there was", grid.fromBattery(3, 3), 20.0);
        checks.same("the next one got nothing", grid.fromBattery(4, 3), 0.0);
        Readings.quarter(grid, 20, 0, 0, 0, 0, 0);
        checks.same("charged for the next", grid.battery(), 20.0);
        Readings.quarter(grid, 0, 0, 0, 0, 50, 0);
        checks.same("one alone gets all", grid.turn(), 4);
        checks.same("empty", grid.battery(), 0.0);
    }

    // "behind 4 to 0"

    private static void behind4Is0() {
        for (int owner = 0; owner < 5; owner++) {
            GridCommons grid = Readings.withFullBattery();
            grid.tell(owner, 1);
            grid.close(0);
            checks.same("behind " + owner, grid.turn(), owner == 4 ? 0 : owner + 1);
        }
    }

    // "If somebody gets more than 0.0 by that, the turn goes"

    private static void theTurnStaysIfNobodyGetsMoreThan0() {
        for (int turn = 0; turn < 5; turn++) {
            GridCommons grid = withTurn(turn);
            Readings.quarter(grid, 0, 0, 0, 0, 0, 0);
            checks.same("nobody needs", grid.turn(), turn);
            Readings.quarter(grid, 10, 2, 2, 2, 2, 2);
            checks.same("the sun does it all", grid.turn(), turn);
            grid.tell(turn, 39);
            grid.close(0);
            checks.same("empty now", grid.battery(), 0.0);
            int behind = (turn + 1) % 5;
            checks.same("and the turn went on", grid.turn(), behind);
            Readings.quarter(grid, 0, 9, 9, 9, 9, 9);
            checks.same("the battery is empty", grid.turn(), behind);
        }
        GridCommons least = new GridCommons();
        least.setShare(1, 1);
        Readings.quarter(least, 1, 1, 0, 0, 0, 0);
        checks.same("nothing left", least.battery(), 0.0);
        checks.same("nobody got", least.turn(), 0);

        GridCommons half = withHalfGuesses();
        half.close(40);
        half.close(0);
        checks.same("a half was got", half.fromBattery(3, 3), 0.5);
        checks.same("and the turn goes on", half.turn(), 4);
    }

    // "Each owner buys the need that is left; the bill becomes greater by that times the price."

    private static void whoNeedsNothingBuysNothing() {
        GridCommons grid = Readings.withBattery(5);
        grid.setShare(0, 2);
        grid.setPrice(4);
        Readings.quarter(grid, 8, 4, 2, 7, 2, 0);
        // By the share 4; then 4 are left over for the needs 2, 7 and 2; the battery gives 5 from owner 0 on.
        double of1 = 2.0 - 4.0 * 2.0 / 11.0;
        double of2 = 7.0 - 4.0 * 7.0 / 11.0;
        double held = 5.0 - of1;
        read.fromBatteryIs(grid, 1, 0, of1, held, 0, 0);
        read.boughtIs(grid, 1, 0, 0, of2 - held, of1, 0);
        read.billIs(grid, 0, 0, of2 - held, of1, 0);
        Readings.quarter(grid, 0, 0, 50, 0, 0, 1);
        read.boughtIs(grid, 2, 0, 50, 0, 0, 1);
        read.billIs(grid, 0, 50, of2 - held, of1, 1);
    }

    // "The bill of each owner becomes less by what is sold times the price, divided by 10.0."

    private static void eachGetsTheWholeTenth() {
        GridCommons grid = Readings.withFullBattery();
        grid.setPrice(3);
        Readings.quarter(grid, 3, 0, 0, 0, 0, 0);
        // A tenth of the price first, or of what is sold, makes another double of it.
        double tenth = 3.0 * 0.75 / 10.0;
        checks.same("that is", tenth, 0.225);
        read.billIs(grid, -tenth, -tenth, -tenth, -tenth, -tenth);
        grid.setPrice(4);
        Readings.quarter(grid, 52, 50, 2, 0, 0, 0);
        read.billIs(grid, -tenth, -tenth, -tenth, -tenth, -tenth);
        Readings.quarter(grid, 53, 50, 2, 0, 0, 0);
        double less = -tenth - 1.0 * 1.0 / 10.0;
        read.billIs(grid, less, less, less, less, less);
    }

    // "Returns the bill, which may be below 0."

    private static void theBillGoesThrough0() {
        GridCommons grid = Readings.withFullBattery();
        read.billIs(grid, 0, 0, 0, 0, 0);
        Readings.quarter(grid, 100, 0, 0, 0, 0, 0);
        read.billIs(grid, -5, -5, -5, -5, -5);
        Readings.quarter(grid, 0, 50, 9, 10, 11, 0);
        read.billIs(grid, 0, -0.5, 0, 0.5, -5);
        checks.same("replaced below 0", gapOf6().replace(0, 1, 5), -0.5);
        GridCommons below = gapOf6();
        below.replace(0, 1, 0);
        checks.same("back to the first quarter", below.bill(0), 3.0);
    }

    /** Two quarters are closed; owner 0 used 6 in both, told and then guessed, and paid 3.0 for each. */
    private static GridCommons gapOf6() {
        GridCommons grid = new GridCommons();
        grid.tell(0, 6);
        grid.close(0);
        grid.close(0);
        return grid;
    }

    // "the true use less what the owner used in that quarter"

    private static void theBillChangesBothWays() {
        int[] uses = {0, 5, 6, 7, 50};
        double[] changes = {-3.0, -0.5, 0.0, 0.5, 22.0};
        for (int i = 0; i < uses.length; i++) {
            GridCommons grid = gapOf6();
            checks.same("the change of " + uses[i], grid.replace(0, 1, uses[i]), changes[i]);
            checks.same("the bill", grid.bill(0), 6.0 + changes[i]);
            checks.same("the use", grid.use(0, 1), uses[i]);
            checks.same("of no other", grid.bill(1), 0.0);
        }
        GridCommons half = withHalfGuesses();
        half.close(0);
        checks.same("a half less", half.replace(3, 2, 0), -0.25);
        half.close(0);
        checks.same("0 is known now", half.use(3, 3), 0.0);
    }

    private static void theWholeUseOfAShedGapIsPaid() {
        GridCommons grid = new GridCommons();
        grid.tell(0, 6);
        grid.close(0);
        tellThree(grid, 0, 50, 50);
        grid.tell(4, 6);
        grid.close(0);
        read.shedsIs(grid, 0, 1, 0, 0, 0);
        grid.tell(1, 50);
        grid.tell(2, 50);
        grid.close(0);
        read.shedsIs(grid, 1, 1, 1, 0, 0);
        checks.same("a shed guess of 3", grid.use(0, 2), 3.0);
        checks.same("the guess that is true is paid", grid.replace(0, 2, 3), 1.5);
        checks.same("a guess of 6 that was not shed", grid.use(4, 2), 6.0);
        checks.same("is paid already", grid.replace(4, 2, 6), 0.0);
    }

    // "times the price of that quarter"

    private static void theOldPriceIsPaid() {
        GridCommons grid = new GridCommons();
        for (int fourths = 1; fourths <= 4; fourths++) {
            grid.setPrice(fourths);
            grid.close(0);
        }
        grid.setPrice(2);
        for (int quarter = 0; quarter < 4; quarter++) {
            checks.same("the price of its closing", grid.replace(quarter, quarter, 4), quarter + 1.0);
        }
        read.billIs(grid, 1, 2, 3, 4, 0);
    }

    // "Guesses that have been made stay."

    private static void laterGuessesStay() {
        GridCommons grid = gapOf6();
        grid.close(0);
        checks.same("replaced", grid.replace(0, 1, 50), 22.0);
        checks.same("the later guess", grid.use(0, 2), 6.0);
        checks.same("what was bought by it", grid.bought(0, 2), 6.0);
        checks.same("its own change", grid.replace(0, 2, 8), 1.0);
        grid.close(0);
        checks.same("the next guess", grid.use(0, 3), 29.0);
    }

    // "Throws IllegalStateException if the use was told, or the gap was replaced"

    private static void toldUsesAreNotReplaced() {
        GridCommons grid = gapOf6();
        checks.fails("told", STATE, () -> grid.replace(0, 0, 7));
        checks.same("a gap of the same owner", grid.replace(0, 1, 7), 0.5);
        checks.same("a gap of the same quarter", grid.replace(1, 0, 7), 3.5);
        checks.same("what was told stays", grid.use(0, 0), 6.0);

        GridCommons shed = new GridCommons();
        Readings.quarter(shed, 0, 50, 50, 50, 0, 0);
        checks.fails("told, and shed", STATE, () -> shed.replace(0, 0, 50));
        checks.same("the bill stays", shed.bill(0), 0.0);
    }

    private static void aGapIsReplacedOnce() {
        GridCommons grid = gapOf6();
        grid.replace(0, 1, 6);
        checks.fails("by the guess, and again", STATE, () -> grid.replace(0, 1, 7));
        grid.replace(1, 1, 0);
        checks.fails("by 0, and again", STATE, () -> grid.replace(1, 1, 1));
        read.useIs(grid, 1, 6, 0, 0, 0, 0);
        read.billIs(grid, 6, 0, 0, 0, 0);
        grid.close(0);
        checks.same("as known as if it was told", grid.use(0, 2), 6.0);
    }

    // "the quarter stays as it was closed, but the bill of the owner becomes greater"

    private static void onlyTheBillChanges() {
        GridCommons grid = Readings.withBattery(10);
        Readings.quarter(grid, 0, 0, 8, 0, 0, 0);
        grid.setShare(1, 2);
        grid.close(4);
        // Owner 1 guesses 4 from 0 and 8: gets 2 by contract, and the 2 that are left over.
        read.fromSunIs(grid, 2, 0, 4, 0, 0, 0);
        checks.same("replaced", grid.replace(1, 2, 50), 23.0);
        read.fromSunIs(grid, 2, 0, 4, 0, 0, 0);
        read.fromBatteryIs(grid, 2, 0, 0, 0, 0, 0);
        read.boughtIs(grid, 2, 0, 0, 0, 0, 0);
        read.shedsIs(grid, 0, 0, 0, 0, 0);
        read.billIs(grid, 0, 23, 0, 0, 0);
        checks.same("sold", grid.sold(2), 0.0);
        checks.same("battery", grid.battery(), 2.0);
        checks.same("turn", grid.turn(), 2);
        checks.same("closed", grid.closed(), 3);
    }
}
