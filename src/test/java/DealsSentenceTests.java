/** A test for each sentence of "Deals" and "A day", and of promises 9 to 13. */
public final class DealsSentenceTests extends SentenceTest {
    public static void main(String[] args) throws Exception {
        new DealsSentenceTests().runAll("Deals", "A day", "Promise 9", "Promise 10", "Promise 11", "Promise 12",
            "Promise 13");
    }

    /** Three owners of 1000 cents; owner 0 has meters 100 to 119, owner 1 has meters 200 to 219. */
    private static RangeDeeds withTwoRanges() {
        RangeDeeds x = withOwners(1000, 1000, 1000);
        x.give(0, 100, 20);
        x.give(1, 200, 20);
        return x;
    }

    /** Looks whether a deal of one transfer from owner 0 to owner 1 can be closed; it is dropped then. */
    private void dealDue(String what, RangeDeeds x, int first, int length, int price, boolean possible) {
        x.transfer(0, 1, first, length, price);
        due("failing(), " + what, x.failing(), possible ? NONE : 0);
        if (!possible) {
            changesNothing(x, () -> due("close(), " + what, x.close(), NOT_POSSIBLE));
            x.drop();
            return;
        }
        isOneChange(x, () -> due("close(), " + what, x.close(), 1));
        x.drop();
    }

    // ---- deals

    @Sentence(in = "Deals", says = "A deal that is being made is a row of up to 8 transfers: a piece that goes from its"
        + " owner to another one at a price.")
    void dealsUpTo8Transfers() {
        RangeDeeds x = withOwners(1000, 1000);
        x.give(0, 0, 80);
        for (int i = 0; i < 8; i++) {
            due("transfer " + i, x.transfer(0, 1, 10 * i, 10, i), i + 1);
        }
        changesNothing(x, () -> due("a ninth", x.transfer(0, 1, 0, 10, 0), TOO_MANY));
        due("close()", x.close(), 8);
        rangeDue(x, 0, 1, 0, 80);
        due("prices of 28 and fees of 40", x.money(1), 932);
        due("prices of 28", x.money(0), 1028);
    }

    @Sentence(in = "Deals", says = "When it is closed, the transfers are done one after the other.")
    void dealsOneTransferAfterTheOther() {
        RangeDeeds x = withTwoRanges();
        x.transfer(0, 1, 100, 20, 0);
        x.transfer(1, 2, 110, 10, 0);
        due("the second gives on what it got", x.close(), 2);
        due("ownerAt(109)", x.ownerAt(109), 1);
        due("ownerAt(110)", x.ownerAt(110), 2);
        x.transfer(1, 2, 115, 1, 0);
        x.transfer(2, 1, 110, 10, 0);
        due("not the other way round", x.failing(), 0);
        due("close()", x.close(), NOT_POSSIBLE);
    }

    @Sentence(in = "Deals", says = "A transfer can be done if all meters of the piece have the first owner then,")
    void dealsAllMetersHaveTheFirstOwner() {
        RangeDeeds x = withTwoRanges();
        dealDue("all of them", x, 100, 20, 0, true);
        dealDue("the first meter has none", x, 99, 2, 0, false);
        dealDue("the last meter has none", x, 119, 2, 0, false);
        dealDue("no meter has an owner", x, 500, 5, 0, false);
    }

    @Sentence(in = "Deals", says = "A transfer can be done if all meters of the piece have the first owner then,")
    void dealsNoMeterHasAnotherOwner() {
        RangeDeeds x = withTwoRanges();
        dealDue("the second owner's meters", x, 200, 20, 0, false);
        x.give(2, 110, 1);
        dealDue("a third owner's meter in the middle", x, 105, 10, 0, false);
        x.free(110, 1);
        dealDue("no owner's meter in the middle", x, 105, 10, 0, false);
    }

    @Sentence(in = "Deals", says = "the second owner has at least the price and FEE in money then,")
    void dealsPriceAndFeeAtLeast() {
        RangeDeeds x = withTwoRanges();
        dealDue("price and FEE are the money", x, 100, 5, 995, true);
        dealDue("a cent more", x, 100, 5, 996, false);
        dealDue("the price alone is the money", x, 100, 5, 1000, false);
        x.set(FEE, 0);
        dealDue("the price is the money, and no FEE", x, 100, 5, 1000, true);
    }

    @Sentence(in = "Deals", says = "the second owner has at least the price and FEE in money then,")
    void dealsPriceAndFeeWithoutMoney() {
        RangeDeeds x = withOwners(0, 4);
        x.give(0, 0, 10);
        dealDue("FEE is a cent more than the money", x, 0, 5, 0, false);
        x.set(FEE, 4);
        dealDue("FEE is the money", x, 0, 5, 0, true);
        x.set(FEE, 1000);
        x.pay(1, 996);
        dealDue("the highest FEE", x, 0, 5, 0, true);
        dealDue("the highest price", x, 0, 5, 1000000, false);
    }

    @Sentence(in = "Deals", says = "in money then, and may have so many meters more.")
    void dealsMoneyThatCameOnTheWay() {
        RangeDeeds x = withOwners(1000, 0);
        x.give(0, 0, 10);
        x.give(1, 20, 10);
        x.transfer(1, 0, 20, 5, 105);
        x.transfer(0, 1, 0, 5, 100);
        due("the price that was got is paid on", x.failing(), NONE);
        x.drop();
        x.transfer(0, 1, 0, 5, 101);
        due("a cent more than was got", x.failing(), 1);
        changesNothing(x, () -> due("close()", x.close(), NOT_POSSIBLE));
    }

    @Sentence(in = "Deals", says = "in money then, and may have so many meters more.")
    void dealsMoneyThatWentOnTheWay() {
        RangeDeeds x = withTwoRanges();
        x.transfer(0, 1, 100, 5, 490);
        x.transfer(0, 1, 105, 5, 500);
        due("twice, to the last cent", x.failing(), NONE);
        x.drop();
        x.transfer(0, 1, 105, 5, 501);
        due("a cent more than is left", x.failing(), 1);
    }

    @Sentence(in = "Deals", says = "and may have so many meters more.")
    void dealsMost() {
        RangeDeeds x = withTwoRanges();
        x.set(MOST, 25);
        dealDue("25 meters then", x, 100, 5, 0, true);
        dealDue("26 meters then", x, 100, 6, 0, false);
        x.set(MOST, 20);
        dealDue("as many as MOST already", x, 100, 1, 0, false);
        x.set(MOST, 10);
        dealDue("above MOST already", x, 100, 1, 0, false);
    }

    @Sentence(in = "Deals", says = "and may have so many meters more.")
    void dealsMostOnTheWay() {
        RangeDeeds x = withTwoRanges();
        x.set(MOST, 20);
        x.transfer(1, 2, 200, 5, 0);
        x.transfer(0, 1, 100, 5, 0);
        due("room that came on the way", x.failing(), NONE);
        x.transfer(0, 1, 105, 1, 0);
        due("room that went on the way", x.failing(), 2);
    }

    @Sentence(in = "Deals", says = "The second owner pays the price to the first one, and FEE.")
    void dealsPriceAndFeeArePaid() {
        RangeDeeds x = withTwoRanges();
        x.transfer(0, 1, 100, 5, 30);
        x.transfer(1, 2, 200, 5, 7);
        due("close()", x.close(), 2);
        due("the first owner has the price", x.money(0), 1030);
        due("the second has paid it, and FEE", x.money(1), 1000 - 35 + 7);
        due("the third has paid, too", x.money(2), 988);
        due("FEE twice", x.count(8), 10);
        due("no tax", x.count(9), 0);
    }

    @Sentence(in = "Deals", says = "If a transfer cannot be done,")
    void dealsFailIfOneTransferCannotBeDone() {
        RangeDeeds x = withTwoRanges();
        x.transfer(0, 1, 100, 5, 30);
        x.transfer(1, 0, 200, 5, 40);
        x.transfer(2, 0, 300, 1, 0);
        due("the last one of three", x.failing(), 2);
        changesNothing(x, () -> due("close()", x.close(), NOT_POSSIBLE));
    }

    @Sentence(in = "Deals", says = "or there would be more than 40 ranges behind it,")
    void dealsFailWithMoreThan40Ranges() {
        RangeDeeds x = withRanges(39);
        x.transfer(0, 1, 0, 1, 0);
        due("40 ranges", x.failing(), NONE);
        x.drop();
        x.transfer(0, 1, 1, 1, 0);
        due("41 ranges", x.failing(), 0);
        changesNothing(x, () -> due("close()", x.close(), NOT_POSSIBLE));
        x.give(0, 1, 5);
        due("41 ranges in all the same", x.failing(), 0);
        x.give(0, 2, 8);
        due("two were joined: 40 ranges", x.close(), 1);
        due("count(2)", x.count(2), 40);
    }

    @Sentence(in = "Deals", says = "or there would be more than 40 ranges behind it,")
    void dealsFailWithMoreThan40RangesOfAllOwners() {
        RangeDeeds x = withRanges(39);
        x.give(2, 5000, 1);
        x.transfer(0, 1, 0, 1, 0);
        due("41 ranges", x.failing(), 0);
        changesNothing(x, () -> due("close()", x.close(), NOT_POSSIBLE));
        x.drop();
        x.transfer(0, 1, 0, 3, 0);
        due("40 ranges, as many as before", x.close(), 1);
        due("count(2)", x.count(2), 40);
    }

    @Sentence(in = "Deals", says = "or there would be more than 40 ranges behind it,")
    void dealsFailWithMoreThan40RangesOnTheWay() {
        RangeDeeds x = withRanges(40);
        x.free(390, 3);
        x.give(1, 3, 1);
        due("count(2)", x.count(2), 40);
        x.transfer(0, 1, 10, 1, 0);
        x.transfer(0, 1, 11, 2, 0);
        due("41 on the way, 40 in the end", x.failing(), 0);
        x.drop();
        x.drop();
        x.transfer(0, 1, 0, 3, 0);
        x.transfer(0, 1, 10, 1, 0);
        due("39 on the way, 40 in the end", x.failing(), NONE);
        due("close()", x.close(), 2);
        due("count(2)", x.count(2), 40);
    }

    @Sentence(in = "Deals", says = "or any range of the first or of the second owner is shorter than SHORTEST behind it,")
    void dealsFailIfTheFirstOwnersIsShorterThanShortest() {
        RangeDeeds x = withTwoRanges();
        x.set(SHORTEST, 5);
        dealDue("5 meters are left", x, 105, 15, 0, true);
        dealDue("4 meters are left", x, 104, 16, 0, false);
        dealDue("4 meters are left behind it", x, 100, 16, 0, false);
        dealDue("nothing is left", x, 100, 20, 0, true);
    }

    @Sentence(in = "Deals", says = "or any range of the first or of the second owner is shorter than SHORTEST behind it,")
    void dealsFailIfAnyOfTheFirstOwnersIsShorterThanShortest() {
        RangeDeeds x = withTwoRanges();
        x.set(SHORTEST, 5);
        x.give(0, 900, 4);
        dealDue("4 meters far away", x, 100, 10, 0, false);
        dealDue("the 4 meters go, but are as short then", x, 900, 4, 0, false);
        x.give(1, 904, 1);
        dealDue("the 4 meters go, and are joined", x, 900, 4, 0, true);
    }

    @Sentence(in = "Deals", says = "or any range of the first or of the second owner is shorter than SHORTEST behind it,")
    void dealsFailIfTheSecondOwnersIsShorterThanShortest() {
        RangeDeeds x = withTwoRanges();
        x.set(SHORTEST, 5);
        dealDue("a piece of 5 meters", x, 100, 5, 0, true);
        dealDue("a piece of 4 meters", x, 100, 4, 0, false);
        x.give(1, 99, 1);
        dealDue("a piece of 4 meters, joined with one", x, 100, 4, 0, true);
        dealDue("one meter is too short as it is", x, 110, 10, 0, false);
        x.free(99, 1);
        x.give(2, 500, 4);
        dealDue("a third owner's is no matter", x, 100, 5, 0, true);
    }

    @Sentence(in = "Deals", says = "or any range of the first or of the second owner is shorter than SHORTEST behind it,")
    void dealsFailIfOneIsShorterOnTheWay() {
        RangeDeeds x = withTwoRanges();
        x.set(SHORTEST, 5);
        x.transfer(0, 1, 100, 4, 0);
        x.transfer(0, 1, 104, 6, 0);
        due("too short on the way, long enough in the end", x.failing(), 0);
        changesNothing(x, () -> due("close()", x.close(), NOT_POSSIBLE));
    }

    @Sentence(in = "Deals", says = "the deal fails: everything is as before it, but the deal stays as it is")
    void dealsThatFailLeaveEverythingAsBefore() {
        RangeDeeds x = withTwoRanges();
        x.transfer(0, 1, 100, 20, 30);
        x.transfer(1, 2, 200, 20, 40);
        x.transfer(1, 2, 200, 1, 40);
        changesNothing(x, () -> {
            due("close()", x.close(), NOT_POSSIBLE);
            due("close() again", x.close(), NOT_POSSIBLE);
        });
        due("no deal was closed", x.count(7), 0);
        due("no FEE was paid", x.count(8), 0);
        due("the deal stays", x.count(6), 3);
        due("ofTransfer(2, 3)", x.ofTransfer(2, 3), 1);
    }

    @Sentence(in = "Deals", says = "(it can be changed and closed again).")
    void dealsThatFailCanBeChangedAndClosedAgain() {
        RangeDeeds x = withTwoRanges();
        x.transfer(0, 1, 100, 10, 30);
        x.transfer(1, 2, 300, 1, 40);
        due("close()", x.close(), NOT_POSSIBLE);
        due("drop()", x.drop(), 1);
        due("another transfer", x.transfer(1, 2, 200, 20, 40), 2);
        due("close() again", x.close(), 2);
        due("count(7)", x.count(7), 1);
        due("ownerAt(200)", x.ownerAt(200), 2);
    }

    @Sentence(in = "Deals", says = "(it can be changed and closed again).")
    void dealsThatFailCanBeClosedWhenTheStreetIsChanged() {
        RangeDeeds x = withTwoRanges();
        x.transfer(0, 1, 100, 21, 0);
        due("a meter has none", x.close(), NOT_POSSIBLE);
        x.give(0, 120, 1);
        due("the meter has the first owner", x.close(), 1);
        x.transfer(0, 1, 100, 1, 0);
        due("no meters are left", x.close(), NOT_POSSIBLE);
    }

    // ---- a day

    @Sentence(in = "A day", says = "1. Each owner, in ascending order, pays RANGE_TAX for each range and LENGTH_TAX for"
        + " each 10 meters of all ranges together, rounded up.")
    void aDayEachOwnerPays() {
        RangeDeeds x = withOwners(1000, 1000, 1000, 1000);
        giveLengths(x, 5, 5);
        x.give(1, 100, 5);
        x.give(1, 110, 6);
        x.give(2, 200, 1);
        x.days(1);
        due("two ranges, 10 meters", x.money(0), 1000 - 2 * 25 - 10);
        due("two ranges, 11 meters", x.money(1), 1000 - 2 * 25 - 20);
        due("one range, 1 meter", x.money(2), 1000 - 25 - 10);
        due("no range", x.money(3), 1000);
        due("count(9)", x.count(9), 60 + 70 + 35);
    }

    @Sentence(in = "A day", says = "1. Each owner, in ascending order, pays")
    void aDayEachOfTenOwnersPays() {
        RangeDeeds x = withOwners(100, 100, 100, 100, 100, 100, 100, 100, 100, 100);
        for (int i = 0; i < 10; i++) {
            x.give(i, 20 * i, i + 1);
        }
        x.give(9, 300, 1);
        x.days(1);
        for (int i = 0; i < 9; i++) {
            due("money(" + i + ")", x.money(i), 65);
        }
        due("money(9), two ranges of 11 meters", x.money(9), 30);
    }

    @Sentence(in = "A day", says = "As long as the money is below 0")
    void aDayMoneyBelow0() {
        RangeDeeds x = withOwners(59, 60, 61);
        for (int i = 0; i < 3; i++) {
            x.give(i, 100 * i, 5);
            x.give(i, 100 * i + 10, 5);
        }
        x.days(1);
        due("a cent below 0", x.ofOwner(0, 0), 1);
        due("money(0)", x.money(0), 59 - 35);
        due("just 0", x.ofOwner(1, 0), 2);
        due("money(1)", x.money(1), 0);
        due("a cent above 0", x.ofOwner(2, 0), 2);
        due("money(2)", x.money(2), 1);
    }

    @Sentence(in = "A day", says = "As long as the money is below 0 and there are ranges,")
    void aDayAsLongAsThereAreRanges() {
        RangeDeeds x = withOwners(0);
        giveLengths(x, 30, 20, 10);
        x.days(1);
        due("all ranges are lost", x.count(2), 0);
        due("ofOwner(0, 5)", x.ofOwner(0, 5), 60);
        due("money(0)", x.money(0), 0);
        x.days(60);
        due("nothing is left to lose", x.ofOwner(0, 5), 60);
        due("nothing is left to pay for", x.money(0), 0);
        due("count(9)", x.count(9), 0);
    }

    @Sentence(in = "A day", says = "the shortest range of the owner")
    void aDayTheShortestRangeIsLost() {
        RangeDeeds x = withOwners(100, 1000);
        giveLengths(x, 12, 11, 13);
        x.give(1, 500, 1);
        due("tax of a day", x.ofOwner(0, 3), 115);
        x.days(1);
        due("count(2)", x.count(2), 3);
        rangeDue(x, 0, 0, 0, 12);
        rangeDue(x, 1, 0, 25, 13);
        rangeDue(x, 2, 1, 500, 1);
        due("ofOwner(0, 5)", x.ofOwner(0, 5), 11);
    }

    @Sentence(in = "A day", says = "(of several the last one along the street)")
    void aDayOfSeveralTheLastOneIsLost() {
        RangeDeeds x = withOwners(100);
        giveLengths(x, 11, 12, 11, 12);
        x.days(1);
        due("two are lost", x.count(2), 2);
        due("the first of the shortest, too", x.ofRange(0, 1), 12);
        x.undo();
        x.pay(0, 25);
        x.days(1);
        due("one is lost", x.count(2), 3);
        rangeDue(x, 0, 0, 0, 11);
        rangeDue(x, 1, 0, 12, 12);
        rangeDue(x, 2, 0, 37, 12);
    }

    @Sentence(in = "A day", says = "becomes a hole,")
    void aDayTheRangeBecomesAHole() {
        RangeDeeds x = withOwners(35, 1000);
        x.give(0, 0, 10);
        x.give(1, 10, 5);
        x.give(0, 15, 5);
        x.give(1, 20, 5);
        due("holes", x.count(4), 1);
        x.days(1);
        due("holes", x.count(4), 2);
        due("ownerAt(15)", x.ownerAt(15), NONE);
        due("ownerAt(19)", x.ownerAt(19), NONE);
        due("the others are not joined", x.count(2), 3);
        due("hole(5, 0)", x.hole(5, 0), 15);
        due("meters that have an owner", x.count(3), 20);
    }

    @Sentence(in = "A day", says = "and the tax of this day for it is given back: RANGE_TAX,")
    void aDayRangeTaxIsGivenBack() {
        RangeDeeds x = withOwners(35);
        giveLengths(x, 5, 5);
        x.days(1);
        due("RANGE_TAX, and the same LENGTH_TAX", x.money(0), 0);
        due("ofOwner(0, 4)", x.ofOwner(0, 4), 35);
        due("count(9)", x.count(9), 35);
        due("ofOwner(0, 0)", x.ofOwner(0, 0), 1);
    }

    @Sentence(in = "A day", says = "and what LENGTH_TAX is less by it.")
    void aDayLengthTaxIsGivenBack() {
        int[][] lengths = {{6, 5}, {10, 1}, {10, 10}, {20, 9}, {15, 14}, {16, 14}};
        int[] taxThen = {35, 35, 35, 45, 45, 45};
        for (int i = 0; i < lengths.length; i++) {
            RangeDeeds x = withOwners(taxThen[i]);
            giveLengths(x, lengths[i]);
            x.days(1);
            due("row " + i + ", one range is left", x.ofOwner(0, 0), 1);
            due("row " + i + ", money", x.money(0), 0);
            due("row " + i + ", tax", x.count(9), taxThen[i]);
        }
    }

    @Sentence(in = "A day", says = "the tax of this day")
    void aDayOnlyTheTaxOfThisDayIsGivenBack() {
        RangeDeeds x = withOwners(100);
        x.give(0, 0, 10);
        x.days(2);
        due("two days are paid", x.money(0), 30);
        x.days(1);
        due("the range is lost", x.count(2), 0);
        due("two days stay paid", x.money(0), 30);
        due("ofOwner(0, 4)", x.ofOwner(0, 4), 70);
    }

    @Sentence(in = "A day", says = "2. The present day increases by 1.")
    void aDayIncreasesThePresentDayBy1() {
        RangeDeeds x = withPoorOwners(1);
        due("days(1)", x.days(1), 1);
        due("count(0)", x.count(0), 1);
        x.give(0, 0, 5);
        due("a day on which a range is lost", x.days(1), 2);
        due("count(0)", x.count(0), 2);
    }

    // ---- transfer

    @Sentence(in = "Promise 9", says = "Adds a transfer to the deal.")
    void promise09AddsATransfer() {
        RangeDeeds x = withTwoRanges();
        x.transfer(0, 1, 100, 20, 30);
        x.transfer(1, 2, 5, 6, 7);
        int[][] due = {{0, 1, 100, 20, 30}, {1, 2, 5, 6, 7}};
        for (int i = 0; i < 2; i++) {
            for (int what = 0; what < 5; what++) {
                due("ofTransfer(" + i + ", " + what + ")", x.ofTransfer(i, what), due[i][what]);
            }
        }
        due("nothing is done yet", x.ownerAt(100), 0);
        due("nothing is paid yet", x.money(0), 1000);
    }

    @Sentence(in = "Promise 9", says = "Adds a transfer to the deal.")
    void promise09AddsATransferThatCannotBeDone() {
        RangeDeeds x = withPoorOwners(2);
        x.set(MOST, 1);
        due("no meters, no money, above MOST", x.transfer(0, 1, 0, 10000, 1000000), 1);
        due("failing()", x.failing(), 0);
    }

    @Sentence(in = "Promise 9", says = "This is a change.")
    void promise09IsAChange() {
        RangeDeeds x = withTwoRanges();
        isOneChange(x, () -> due("transfer", x.transfer(0, 1, 100, 20, 30), 1));
    }

    @Sentence(in = "Promise 9", says = {"- `from`: the first owner", "- `to`: the second owner"})
    void promise09FromFirstToSecondOwner() {
        RangeDeeds x = withTwoRanges();
        x.transfer(0, 2, 100, 20, 30);
        due("close()", x.close(), 1);
        due("ownerAt(100)", x.ownerAt(100), 2);
        due("the second owner pays", x.money(2), 965);
        due("the first owner is paid", x.money(0), 1030);
    }

    @Sentence(in = "Promise 9", says = "- `first`: 0 to 9999")
    void promise09FirstFrom0To9999() {
        RangeDeeds x = withPoorOwners(2);
        due("first 0", x.transfer(0, 1, 0, 1, 0), 1);
        due("first 9999", x.transfer(0, 1, 9999, 1, 0), 2);
        due("ofTransfer(0, 2)", x.ofTransfer(0, 2), 0);
        due("ofTransfer(1, 2)", x.ofTransfer(1, 2), 9999);
    }

    @Sentence(in = "Promise 9", says = "- `length`: 1 to 10000;")
    void promise09LengthFrom1To10000() {
        RangeDeeds x = withPoorOwners(2);
        due("length 1", x.transfer(0, 1, 0, 1, 0), 1);
        due("length 10000", x.transfer(0, 1, 0, 10000, 0), 2);
        due("ofTransfer(0, 3)", x.ofTransfer(0, 3), 1);
        due("ofTransfer(1, 3)", x.ofTransfer(1, 3), 10000);
    }

    @Sentence(in = "Promise 9", says = "the piece ends at meter 9999 or earlier")
    void promise09EndsAtMeter9999OrEarlier() {
        RangeDeeds x = withPoorOwners(2);
        changesNothing(x, () -> {
            due("ends at 10000", x.transfer(0, 1, 9999, 2, 0), BAD_VALUE);
            due("ends at 10000", x.transfer(0, 1, 1, 10000, 0), BAD_VALUE);
        });
        due("ends at 9999", x.transfer(0, 1, 1, 9999, 0), 1);
        due("ends at 9998", x.transfer(0, 1, 1, 9998, 0), 2);
    }

    @Sentence(in = "Promise 9", says = "- `price`: 0 to 1000000")
    void promise09PriceFrom0To1000000() {
        RangeDeeds x = withOwners(0, 1000000);
        x.pay(1, 5);
        x.give(0, 0, 10);
        due("price 0", x.transfer(0, 1, 0, 5, 0), 1);
        due("ofTransfer(0, 4)", x.ofTransfer(0, 4), 0);
        x.drop();
        due("price 1000000", x.transfer(0, 1, 0, 5, 1000000), 1);
        due("ofTransfer(0, 4)", x.ofTransfer(0, 4), 1000000);
        due("close()", x.close(), 1);
        due("money(0)", x.money(0), 1000000);
        due("money(1)", x.money(1), 0);
    }

    @Sentence(in = "Promise 9", says = "Returns how many transfers the deal has then;")
    void promise09ReturnsHowManyTransfers() {
        RangeDeeds x = withPoorOwners(2);
        due("the first", x.transfer(0, 1, 0, 5, 0), 1);
        due("the same again", x.transfer(0, 1, 0, 5, 0), 2);
        due("a refused one", x.transfer(0, 1, 0, 0, 0), BAD_VALUE);
        due("the third", x.transfer(1, 0, 0, 5, 0), 3);
        x.drop();
        due("the third again", x.transfer(1, 0, 0, 5, 0), 3);
    }

    @Sentence(in = "Promise 9", says = "NO_SUCH if there is no such owner,")
    void promise09NoSuchOwner() {
        RangeDeeds x = withPoorOwners(2);
        changesNothing(x, () -> {
            due("from 2", x.transfer(2, 0, 0, 1, 0), NO_SUCH);
            due("to 2", x.transfer(0, 2, 0, 1, 0), NO_SUCH);
            due("from -1", x.transfer(-1, 0, 0, 1, 0), NO_SUCH);
            due("to -1", x.transfer(0, -1, 0, 1, 0), NO_SUCH);
            due("from -6", x.transfer(-6, 0, 0, 1, 0), NO_SUCH);
            due("from least to greatest", x.transfer(LEAST, GREATEST, 0, 1, 0), NO_SUCH);
        });
    }

    @Sentence(in = "Promise 9", says = "or both are the same;")
    void promise09BothAreTheSame() {
        RangeDeeds x = withTwoRanges();
        changesNothing(x, () -> {
            due("0 to 0", x.transfer(0, 0, 100, 1, 0), NO_SUCH);
            due("1 to 1", x.transfer(1, 1, 200, 1, 0), NO_SUCH);
        });
    }

    @Sentence(in = "Promise 9", says = "BAD_VALUE if another argument is out of range;")
    void promise09FirstOrLengthOutOfRange() {
        RangeDeeds x = withPoorOwners(2);
        changesNothing(x, () -> {
            due("first -1", x.transfer(0, 1, -1, 1, 0), BAD_VALUE);
            due("first 10000", x.transfer(0, 1, 10000, 1, 0), BAD_VALUE);
            due("first least", x.transfer(0, 1, LEAST, 1, 0), BAD_VALUE);
            due("length 0", x.transfer(0, 1, 0, 0, 0), BAD_VALUE);
            due("length -1", x.transfer(0, 1, 5, -1, 0), BAD_VALUE);
            due("length 10001", x.transfer(0, 1, 0, 10001, 0), BAD_VALUE);
            due("length greatest", x.transfer(0, 1, 1, GREATEST, 0), BAD_VALUE);
            due("both greatest", x.transfer(0, 1, GREATEST, GREATEST, 0), BAD_VALUE);
            due("both least", x.transfer(0, 1, LEAST, LEAST, 0), BAD_VALUE);
        });
    }

    @Sentence(in = "Promise 9", says = "BAD_VALUE if another argument is out of range;")
    void promise09PriceOutOfRange() {
        RangeDeeds x = withPoorOwners(2);
        changesNothing(x, () -> {
            due("price -1", x.transfer(0, 1, 0, 1, -1), BAD_VALUE);
            due("price 1000001", x.transfer(0, 1, 0, 1, 1000001), BAD_VALUE);
            due("price least", x.transfer(0, 1, 0, 1, LEAST), BAD_VALUE);
            due("price greatest", x.transfer(0, 1, 0, 1, GREATEST), BAD_VALUE);
        });
    }

    @Sentence(in = "Promise 9", says = "TOO_MANY if there are 8 transfers.")
    void promise09EightTransfers() {
        RangeDeeds x = withPoorOwners(2);
        for (int i = 1; i <= 8; i++) {
            due("transfer " + i, x.transfer(0, 1, i, 1, 0), i);
        }
        changesNothing(x, () -> due("a ninth", x.transfer(0, 1, 0, 1, 0), TOO_MANY));
        due("drop()", x.drop(), 7);
        due("the eighth again", x.transfer(0, 1, 9, 1, 0), 8);
        due("ofTransfer(7, 2)", x.ofTransfer(7, 2), 9);
    }

    @Sentence(in = "Promise 9", says = "NO_SUCH if there is no such owner, or both are the same; BAD_VALUE if another"
        + " argument is out of range; TOO_MANY if there are 8 transfers.")
    void promise09ErrorsInTheirOrder() {
        RangeDeeds x = withPoorOwners(2);
        for (int i = 1; i <= 8; i++) {
            x.transfer(0, 1, i, 1, 0);
        }
        due("no such owner", x.transfer(0, 2, -1, 1, 0), NO_SUCH);
        due("both the same", x.transfer(1, 1, 0, 0, 0), NO_SUCH);
        due("first", x.transfer(0, 1, -1, 1, 0), BAD_VALUE);
        due("price", x.transfer(0, 1, 0, 1, -1), BAD_VALUE);
        due("eight", x.transfer(0, 1, 0, 1, 0), TOO_MANY);
    }

    // ---- drop

    @Sentence(in = "Promise 10", says = "Drops the last transfer of the deal.")
    void promise10DropsTheLastTransfer() {
        RangeDeeds x = withPoorOwners(2);
        x.transfer(0, 1, 10, 1, 0);
        x.transfer(0, 1, 20, 1, 0);
        x.transfer(0, 1, 30, 1, 0);
        x.drop();
        due("ofTransfer(0, 2)", x.ofTransfer(0, 2), 10);
        due("ofTransfer(1, 2)", x.ofTransfer(1, 2), 20);
        due("ofTransfer(2, 2)", x.ofTransfer(2, 2), NO_SUCH);
    }

    @Sentence(in = "Promise 10", says = "This is a change.")
    void promise10IsAChange() {
        RangeDeeds x = withPoorOwners(2);
        x.transfer(0, 1, 10, 1, 5);
        isOneChange(x, () -> due("drop()", x.drop(), 0));
    }

    @Sentence(in = "Promise 10", says = "Returns how many transfers it has then;")
    void promise10ReturnsHowManyTransfers() {
        RangeDeeds x = withPoorOwners(2);
        for (int i = 1; i <= 8; i++) {
            x.transfer(0, 1, i, 1, 0);
        }
        for (int i = 7; i >= 0; i--) {
            due("drop()", x.drop(), i);
            due("count(6)", x.count(6), i);
        }
    }

    @Sentence(in = "Promise 10", says = "NOT_POSSIBLE if it has none.")
    void promise10NoTransfers() {
        RangeDeeds x = withTwoRanges();
        changesNothing(x, () -> due("none yet", x.drop(), NOT_POSSIBLE));
        x.transfer(0, 1, 100, 5, 0);
        x.close();
        changesNothing(x, () -> due("none any more", x.drop(), NOT_POSSIBLE));
    }

    // ---- close

    @Sentence(in = "Promise 11", says = "Closes the deal, which has no transfers then.")
    void promise11HasNoTransfersThen() {
        RangeDeeds x = withTwoRanges();
        x.transfer(0, 1, 100, 20, 30);
        x.close();
        due("count(6)", x.count(6), 0);
        due("ofTransfer(0, 0)", x.ofTransfer(0, 0), NO_SUCH);
        due("count(7)", x.count(7), 1);
        due("ownerAt(100)", x.ownerAt(100), 1);
        due("the next deal", x.transfer(1, 0, 100, 20, 0), 1);
        due("the next deal is closed", x.close(), 1);
        due("count(7)", x.count(7), 2);
    }

    @Sentence(in = "Promise 11", says = "This is a change.")
    void promise11IsAChange() {
        RangeDeeds x = withTwoRanges();
        x.transfer(0, 1, 100, 20, 30);
        x.transfer(1, 2, 200, 20, 30);
        isOneChange(x, () -> due("close()", x.close(), 2));
        due("the deal is there again", x.count(6), 2);
        due("close() again", x.close(), 2);
    }

    @Sentence(in = "Promise 11", says = "Returns how many transfers were done;")
    void promise11ReturnsHowManyTransfers() {
        RangeDeeds x = withOwners(1000, 1000);
        x.give(0, 0, 80);
        x.transfer(0, 1, 0, 1, 0);
        due("one", x.close(), 1);
        for (int i = 1; i <= 8; i++) {
            x.transfer(0, 1, i, 1, 0);
        }
        due("eight", x.close(), 8);
        due("ofOwner(1, 1)", x.ofOwner(1, 1), 9);
    }

    @Sentence(in = "Promise 11", says = "NOT_POSSIBLE if the deal has none,")
    void promise11NoTransfers() {
        RangeDeeds x = withTwoRanges();
        changesNothing(x, () -> due("none yet", x.close(), NOT_POSSIBLE));
        x.transfer(0, 1, 100, 5, 0);
        x.close();
        changesNothing(x, () -> due("none any more", x.close(), NOT_POSSIBLE));
    }

    @Sentence(in = "Promise 11", says = "or fails.")
    void promise11DealFails() {
        RangeDeeds x = withTwoRanges();
        x.transfer(0, 1, 100, 5, 10);
        x.transfer(0, 1, 100, 5, 10);
        changesNothing(x, () -> due("the second cannot be done", x.close(), NOT_POSSIBLE));
        x.undo();
        due("the first alone", x.close(), 1);
    }

    // ---- failing

    @Sentence(in = "Promise 12", says = "Tells which transfer of the deal would be the first one that fails if it was"
        + " closed now;")
    void promise12TheFirstThatFails() {
        RangeDeeds x = withTwoRanges();
        x.transfer(0, 1, 100, 5, 0);
        x.transfer(0, 1, 300, 5, 0);
        x.transfer(0, 1, 400, 5, 0);
        due("the second and the third would fail", x.failing(), 1);
        x.give(0, 300, 5);
        due("as the street is now", x.failing(), 2);
        x.set(FEE, 1000);
        due("as the settings are now", x.failing(), 1);
        x.set(SHORTEST, 6);
        due("as the settings are now", x.failing(), 0);
    }

    @Sentence(in = "Promise 12", says = "nothing changes.")
    void promise12NothingChanges() {
        RangeDeeds x = withTwoRanges();
        x.transfer(0, 1, 100, 5, 30);
        changesNothing(x, () -> due("none fails", x.failing(), NONE));
        x.transfer(0, 1, 100, 5, 30);
        changesNothing(x, () -> due("the second fails", x.failing(), 1));
    }

    @Sentence(in = "Promise 12", says = "Returns its place in the deal, from 0;")
    void promise12PlaceFrom0() {
        RangeDeeds x = withOwners(1000, 1000);
        x.give(0, 0, 7);
        x.transfer(0, 1, 500, 1, 0);
        due("the first", x.failing(), 0);
        x.drop();
        for (int i = 0; i < 7; i++) {
            x.transfer(0, 1, i, 1, 0);
        }
        x.transfer(0, 1, 7, 1, 0);
        due("the eighth", x.failing(), 7);
    }

    @Sentence(in = "Promise 12", says = "NONE if none would.")
    void promise12NoneWould() {
        RangeDeeds x = withTwoRanges();
        due("no transfers", x.failing(), NONE);
        x.transfer(0, 1, 100, 5, 30);
        due("one that can be done", x.failing(), NONE);
        x.close();
        due("no transfers any more", x.failing(), NONE);
        due("a street without owners", new RangeDeeds().failing(), NONE);
    }

    // ---- days

    @Sentence(in = "Promise 13", says = "Lets days pass.")
    void promise13LetsDaysPass() {
        RangeDeeds x = withOwners(100);
        x.give(0, 0, 10);
        x.days(2);
        due("two days are paid", x.money(0), 30);
        x.days(2);
        due("the third cannot be paid", x.count(2), 0);
        due("the fourth has no tax", x.money(0), 30);
        due("count(0)", x.count(0), 4);
    }

    @Sentence(in = "Promise 13", says = "This is a change.")
    void promise13IsAChange() {
        RangeDeeds x = withOwners(100);
        isOneChange(x, () -> due("days(1)", x.days(1), 1));
        x.give(0, 0, 10);
        isOneChange(x, () -> due("days(60), one change", x.days(60), 60));
    }

    @Sentence(in = "Promise 13", says = "- `days`: 1 to 60")
    void promise13DaysFrom1To60() {
        RangeDeeds x = withOwners(1000000);
        x.give(0, 0, 10);
        due("days(1)", x.days(1), 1);
        due("one tax", x.ofOwner(0, 4), 35);
        due("days(60)", x.days(60), 61);
        due("sixty more", x.ofOwner(0, 4), 61 * 35);
    }

    @Sentence(in = "Promise 13", says = "Returns the present day then;")
    void promise13ReturnsThePresentDay() {
        RangeDeeds x = new RangeDeeds();
        due("days(59)", x.days(59), 59);
        due("days(2)", x.days(2), 61);
        x.undo();
        due("days(60)", x.days(60), 119);
        due("count(0)", x.count(0), 119);
    }

    @Sentence(in = "Promise 13", says = "BAD_VALUE if days is out of range.")
    void promise13DaysOutOfRange() {
        RangeDeeds x = withOwners(100);
        x.give(0, 0, 10);
        changesNothing(x, () -> {
            due("days(0)", x.days(0), BAD_VALUE);
            due("days(-1)", x.days(-1), BAD_VALUE);
            due("days(61)", x.days(61), BAD_VALUE);
            due("days(least)", x.days(LEAST), BAD_VALUE);
            due("days(greatest)", x.days(GREATEST), BAD_VALUE);
        });
    }
}
