/** A test for each sentence of "Terms", but for the deals, the day and the texts. */
public final class TermsSentenceTests extends SentenceTest {
    public static void main(String[] args) throws Exception {
        new TermsSentenceTests().runAll("Terms", "Settings", "Street", "Owners");
    }

    // ---- what it is

    @Sentence(in = "What it is", says = "An object is used for at most 512 calls after it has been made")
    void whatItIs512CallsAreAnswered() {
        RangeDeeds x = new RangeDeeds();
        due("call 1, owner(0)", x.owner(0), 0);
        for (int call = 2; call <= 509; call++) {
            due("call " + call + ", pay(0, 1000000)", x.pay(0, 1000000), 1);
        }
        due("call 510, undo()", x.undo(), 5);
        due("call 511, days(60)", x.days(60), 60);
        due("call 512, money(0)", x.money(0), 507000000L);
    }

    @Sentence(in = "What it is", says = "An object is used for at most 512 calls after it has been made")
    void whatItIs512CallsInOtherObjectsToo() {
        RangeDeeds first = new RangeDeeds();
        RangeDeeds second = new RangeDeeds();
        for (int call = 1; call <= 511; call++) {
            first.days(60);
            second.days(1);
        }
        due("call 512 of the first, count(0)", first.count(0), 30660);
        due("call 512 of the second, count(0)", second.count(0), 511);
    }

    // ---- conventions

    @Sentence(in = "Terms", says = {"CONVENTIONS. A method that fails returns one of the error codes NO_SUCH (-1),"
        + " BAD_VALUE (-2), BAD_TEXT (-3), TOO_MANY (-4) and NOT_POSSIBLE (-5);"})
    void termsErrorCodes() {
        RangeDeeds x = withPoorOwners(10);
        due("give(10, 0, 1)", x.give(10, 0, 1), -1);
        due("give(0, 0, 0)", x.give(0, 0, 0), -2);
        due("carryOut() of an empty pad", x.carryOut(), -3);
        due("owner(0), the eleventh", x.owner(0), -4);
        due("drop() without transfers", x.drop(), -5);
        due("money(10)", x.money(10), -1);
    }

    @Sentence(in = "Terms", says = "it names its errors in the order in which they are checked, and the first one that"
        + " applies is returned.")
    void termsFirstErrorThatApplies() {
        RangeDeeds x = withPoorOwners(10);
        due("owner(-1), BAD_VALUE before TOO_MANY", x.owner(-1), BAD_VALUE);
        due("pay(10, -1), NO_SUCH before BAD_VALUE", x.pay(10, -1), NO_SUCH);
        due("give(10, -1, 0), NO_SUCH before BAD_VALUE", x.give(10, -1, 0), NO_SUCH);
        due("grab(10, 0), NO_SUCH before BAD_VALUE", x.grab(10, 0), NO_SUCH);
        due("transfer(0, 0, -1, 0, -1), NO_SUCH before BAD_VALUE", x.transfer(0, 0, -1, 0, -1), NO_SUCH);
        due("ofRange(0, 3), NO_SUCH before BAD_VALUE", x.ofRange(0, 3), NO_SUCH);
        due("ofOwner(10, 6), NO_SUCH before BAD_VALUE", x.ofOwner(10, 6), NO_SUCH);
        due("ofTransfer(0, 5), NO_SUCH before BAD_VALUE", x.ofTransfer(0, 5), NO_SUCH);
        due("wouldBe(10, -1, 0), NO_SUCH before BAD_VALUE", x.wouldBe(10, -1, 0), NO_SUCH);
        due("restore(2), BAD_VALUE before NOT_POSSIBLE", x.restore(2), BAD_VALUE);
    }

    /** A street with something of all there is, and six states that can be undone. */
    private static RangeDeeds withAllThereIs() {
        RangeDeeds x = withOwners(1000, 500, 20);
        x.save(0);
        x.set(MOST, 300);
        x.give(0, 0, 20);
        x.give(1, 40, 10);
        x.give(2, 60, 1);
        x.days(1);
        x.transfer(0, 1, 5, 400, 3);
        putText(x, "d1;x");
        return x;
    }

    private void refuseAll(RangeDeeds x) {
        due("set(5, 1)", x.set(5, 1), BAD_VALUE);
        due("owner(-1)", x.owner(-1), BAD_VALUE);
        due("pay(0, -1)", x.pay(0, -1), BAD_VALUE);
        due("give(3, 0, 1)", x.give(3, 0, 1), NO_SUCH);
        due("give(0, 9999, 2)", x.give(0, 9999, 2), BAD_VALUE);
        due("give(0, 100, 281)", x.give(0, 100, 281), NOT_POSSIBLE);
        due("free(0, 10001)", x.free(0, 10001), BAD_VALUE);
        due("grab(0, 281)", x.grab(0, 281), NOT_POSSIBLE);
        due("inherit(0, 0)", x.inherit(0, 0), NO_SUCH);
        due("transfer(0, 1, 0, 1, -1)", x.transfer(0, 1, 0, 1, -1), BAD_VALUE);
        due("close()", x.close(), NOT_POSSIBLE);
        due("days(61)", x.days(61), BAD_VALUE);
        due("put(0)", x.put(0), BAD_VALUE);
        due("carryOut()", x.carryOut(), BAD_TEXT);
        due("save(2)", x.save(2), BAD_VALUE);
        due("restore(1)", x.restore(1), NOT_POSSIBLE);
        due("shareBits(3)", x.shareBits(3), NO_SUCH);
        due("quietest(0, 0)", x.quietest(0, 0), BAD_VALUE);
        due("gaps(3)", x.gaps(3), NO_SUCH);
    }

    @Sentence(in = "Terms", says = "A call that returns an error changes nothing.")
    void termsErrorChangesNothingThatIsTold() {
        RangeDeeds x = withAllThereIs();
        changesNothing(x, () -> refuseAll(x));
        changesNothing(x, () -> due("money(-1)", x.money(-1), NO_SUCH));
    }

    @Sentence(in = "Terms", says = "A call that returns an error changes nothing.")
    void termsErrorChangesNoStateOfTheHistory() {
        RangeDeeds x = withAllThereIs();
        RangeDeeds twin = withAllThereIs();
        refuseAll(x);
        for (int i = 5; i >= 0; i--) {
            due("undo()", x.undo(), i);
            due("undo() of the twin", twin.undo(), i);
            samePicture("what is undone", picture(x, true), picture(twin, true));
        }
        due("undo()", x.undo(), NOT_POSSIBLE);
    }

    @Sentence(in = "Terms", says = "A call that returns an error changes nothing.")
    void termsErrorChangesNoSlot() {
        RangeDeeds x = withAllThereIs();
        RangeDeeds twin = withAllThereIs();
        refuseAll(x);
        due("restore(0)", x.restore(0), 0);
        twin.restore(0);
        samePicture("what was saved", picture(x, true), picture(twin, true));
    }

    @Sentence(in = "Terms", says = "NONE (-6) is not an error; it is returned only if no error applies.")
    void termsNoneOnlyWithoutError() {
        RangeDeeds x = withPoorOwners(1);
        due("ownerAt(0)", x.ownerAt(0), -6);
        due("ownerAt(-1)", x.ownerAt(-1), BAD_VALUE);
        due("exchange(2)", x.exchange(2), -6);
        due("exchange(3)", x.exchange(3), BAD_VALUE);
        due("losesIn(0)", x.losesIn(0), -6);
        due("losesIn(1)", x.losesIn(1), NO_SUCH);
        due("failing()", x.failing(), -6);
        x.give(0, 0, 10000);
        due("hole(1, 0)", x.hole(1, 0), -6);
        due("hole(0, 0)", x.hole(0, 0), BAD_VALUE);
        due("hole(1, 3)", x.hole(1, 3), BAD_VALUE);
        x.put('d');
        x.put('1');
        due("fault()", x.fault(), -6);
    }

    @Sentence(in = "Terms", says = "Divisions are rounded down, unless \"rounded up\" is written.")
    void termsDivisionsThatAreRoundedUp() {
        int[][] tensOfMeters = {{1, 1}, {9, 1}, {10, 1}, {11, 2}, {19, 2}, {20, 2}, {21, 3}, {9990, 999}, {9991, 1000},
            {10000, 1000}};
        for (int[] row : tensOfMeters) {
            RangeDeeds x = withPoorOwners(1);
            x.set(RANGE_TAX, 0);
            x.set(LENGTH_TAX, 1);
            x.give(0, 0, row[0]);
            due("tax of " + row[0] + " meters", x.ofOwner(0, 3), row[1]);
        }
    }

    @Sentence(in = "Terms", says = "Everything is numbered from 0.")
    void termsNumberedFrom0() {
        RangeDeeds x = new RangeDeeds();
        due("the first owner", x.owner(1000), 0);
        x.owner(1000);
        due("the first setting", x.set(0, 11), 10);
        x.give(1, 0, 7);
        due("the first range", x.ofRange(0, 2), 7);
        due("the first meter", x.ownerAt(0), 1);
        x.transfer(0, 1, 0, 1, 9);
        due("the first transfer", x.ofTransfer(0, 4), 9);
        due("the first transfer fails", x.failing(), 0);
        x.put('x');
        due("the first character", x.fault(), 0);
        due("the first slot", x.save(0), 0);
    }

    @Sentence(in = "Terms", says = "Money is in cents.")
    void termsMoneyIsInCents() {
        RangeDeeds x = withOwners(26);
        x.pay(0, 1);
        due("26 cents and one", x.money(0), 27);
        x.set(LENGTH_TAX, 0);
        x.give(0, 0, 1);
        x.days(1);
        due("25 cents less", x.money(0), 2);
    }

    @Sentence(in = "Terms", says = "The present day is 0 at first.")
    void termsPresentDayIs0AtFirst() {
        due("count(0)", new RangeDeeds().count(0), 0);
        due("save(0)", new RangeDeeds().save(0), 0);
        due("days(1)", new RangeDeeds().days(1), 1);
    }

    // ---- settings

    private void settingDue(int setting, int lowest, int highest, int first) {
        RangeDeeds x = new RangeDeeds();
        due("the first value", x.count(12 + setting), first);
        changesNothing(x, () -> {
            due("too small", x.set(setting, lowest - 1), BAD_VALUE);
            due("too large", x.set(setting, highest + 1), BAD_VALUE);
            due("the least int", x.set(setting, LEAST), BAD_VALUE);
            due("the greatest int", x.set(setting, GREATEST), BAD_VALUE);
        });
        due("the lowest", x.set(setting, lowest), first);
        due("the lowest is kept", x.count(12 + setting), lowest);
        due("the highest", x.set(setting, highest), lowest);
        due("the highest is kept", x.count(12 + setting), highest);
        for (int other = 0; other < 5; other++) {
            if (other != setting) {
                due("setting " + other, x.count(12 + other), new RangeDeeds().count(12 + other));
            }
        }
    }

    @Sentence(in = "Settings", says = {"(In parentheses: range; first value.)", "LENGTH_TAX (0 to 1000; 10)"})
    void settingsRangeOfLengthTax() {
        settingDue(0, 0, 1000, 10);
    }

    @Sentence(in = "Settings", says = ", for each 10 meters, rounded up.")
    void settingsLengthTaxForEach10Meters() {
        RangeDeeds x = withOwners(1000000);
        x.set(RANGE_TAX, 0);
        x.set(LENGTH_TAX, 1000);
        x.give(0, 0, 11);
        due("11 meters", x.ofOwner(0, 3), 2000);
        x.free(10, 1);
        due("10 meters", x.ofOwner(0, 3), 1000);
        x.set(LENGTH_TAX, 0);
        due("without LENGTH_TAX", x.ofOwner(0, 3), 0);
        x.days(1);
        due("money without LENGTH_TAX", x.money(0), 1000000);
    }

    @Sentence(in = "Settings", says = "RANGE_TAX (0 to 1000; 25)")
    void settingsRangeOfRangeTax() {
        settingDue(1, 0, 1000, 25);
    }

    @Sentence(in = "Settings", says = ", for a range.")
    void settingsRangeTaxForARange() {
        RangeDeeds x = withOwners(1000000);
        x.set(LENGTH_TAX, 0);
        x.set(RANGE_TAX, 1000);
        giveLengths(x, 100, 1, 1);
        due("three ranges", x.ofOwner(0, 3), 3000);
        x.give(0, 100, 1);
        due("two ranges", x.ofOwner(0, 3), 2000);
        x.set(RANGE_TAX, 0);
        due("without RANGE_TAX", x.ofOwner(0, 3), 0);
    }

    @Sentence(in = "Settings", says = "FEE (0 to 1000; 5)")
    void settingsRangeOfFee() {
        settingDue(2, 0, 1000, 5);
    }

    @Sentence(in = "Settings", says = ", for a transfer of a deal.")
    void settingsFeeForATransfer() {
        RangeDeeds x = withOwners(0, 3000);
        x.give(0, 0, 30);
        x.set(FEE, 1000);
        for (int i = 0; i < 3; i++) {
            x.transfer(0, 1, 10 * i, 10, 0);
        }
        due("three transfers, three fees", x.close(), 3);
        due("count(8)", x.count(8), 3000);
        due("money(1)", x.money(1), 0);
        due("money(0) has no fee", x.money(0), 0);
        x.set(FEE, 0);
        x.transfer(1, 0, 0, 10, 0);
        due("no FEE, and no money", x.close(), 1);
        due("count(8)", x.count(8), 3000);
    }

    @Sentence(in = "Settings", says = "SHORTEST (1 to 100; 1)")
    void settingsRangeOfShortest() {
        settingDue(3, 1, 100, 1);
    }

    @Sentence(in = "Settings", says = "(1 to 100; 1), in meters.")
    void settingsShortestIsInMeters() {
        RangeDeeds x = withOwners(1000, 1000);
        x.set(SHORTEST, 100);
        x.give(0, 0, 299);
        x.transfer(0, 1, 0, 199, 0);
        due("100 meters are left", x.failing(), NONE);
        x.drop();
        x.transfer(0, 1, 0, 200, 0);
        due("99 meters are left", x.failing(), 0);
        x.set(SHORTEST, 1);
        x.drop();
        x.transfer(0, 1, 0, 298, 0);
        due("one meter is left", x.failing(), NONE);
    }

    @Sentence(in = "Settings", says = "MOST (1 to 10000; 10000)")
    void settingsRangeOfMost() {
        settingDue(4, 1, 10000, 10000);
    }

    @Sentence(in = "Settings", says = "(1 to 10000; 10000), in meters.")
    void settingsMostIsInMeters() {
        RangeDeeds x = withPoorOwners(2);
        due("10000 meters", x.give(0, 0, 10000), 1);
        x.set(MOST, 1);
        due("two meters", x.give(1, 0, 2), NOT_POSSIBLE);
        due("one meter", x.give(1, 0, 1), 2);
        due("a second meter", x.give(1, 1, 1), NOT_POSSIBLE);
    }

    // ---- the street

    @Sentence(in = "Street", says = "The street has 10000 meters, 0 to 9999.")
    void streetHas10000Meters() {
        RangeDeeds x = withPoorOwners(1);
        due("the longest hole", x.count(5), 10000);
        due("ownerAt(-1)", x.ownerAt(-1), BAD_VALUE);
        due("ownerAt(10000)", x.ownerAt(10000), BAD_VALUE);
        due("give(0, 0, 1)", x.give(0, 0, 1), 1);
        due("give(0, 9999, 1)", x.give(0, 9999, 1), 2);
        due("ownerAt(0)", x.ownerAt(0), 0);
        due("ownerAt(9999)", x.ownerAt(9999), 0);
        due("the longest hole", x.count(5), 9998);
        due("the ends are not side by side", x.ofOwner(0, 0), 2);
    }

    @Sentence(in = "Street", says = "Each of them has one owner or none (none at first).")
    void streetMetersHaveOneOwnerOrNone() {
        RangeDeeds x = withPoorOwners(2);
        due("meters with an owner at first", x.count(3), 0);
        for (int meter = 0; meter < 10000; meter += 101) {
            due("ownerAt(" + meter + ")", x.ownerAt(meter), NONE);
        }
        x.give(0, 10, 10);
        x.give(1, 10, 10);
        due("one owner", x.ownerAt(10), 1);
        due("the other has none", x.ofOwner(0, 1), 0);
        due("meters with an owner", x.count(3), 10);
        x.free(10, 10);
        due("none again", x.ownerAt(10), NONE);
    }

    @Sentence(in = "Street", says = "A range of an owner is a greatest row of meters side by side which all have this"
        + " owner;")
    void streetRangeIsAGreatestRow() {
        RangeDeeds x = withPoorOwners(2);
        x.give(0, 10, 5);
        due("side by side behind", x.give(0, 15, 5), 1);
        due("side by side before", x.give(0, 5, 5), 1);
        rangeDue(x, 0, 0, 5, 15);
        due("a meter between them", x.give(0, 21, 5), 2);
        due("another owner between them", x.give(1, 20, 1), 3);
        rangeDue(x, 0, 0, 5, 15);
        rangeDue(x, 1, 1, 20, 1);
        rangeDue(x, 2, 0, 21, 5);
        due("joined on both sides", x.give(0, 20, 1), 1);
        rangeDue(x, 0, 0, 5, 21);
    }

    @Sentence(in = "Street", says = "a hole is such a row without owner.")
    void streetHoleIsARowWithoutOwner() {
        RangeDeeds x = withPoorOwners(1);
        due("the whole street", x.count(4), 1);
        x.give(0, 0, 10000);
        due("no hole", x.count(4), 0);
        x.free(100, 10);
        x.free(120, 10);
        due("two holes", x.count(4), 2);
        x.free(110, 10);
        due("one greatest row", x.count(4), 1);
        due("of 30 meters", x.count(5), 30);
        due("from meter 100", x.hole(30, 0), 100);
    }

    @Sentence(in = "Street", says = "Ranges (of all owners) are numbered along the street; holes are not among them.")
    void streetRangesAreNumberedAlongIt() {
        RangeDeeds x = withPoorOwners(3);
        x.give(0, 500, 5);
        x.give(2, 100, 6);
        x.give(1, 300, 7);
        x.give(0, 0, 8);
        rangeDue(x, 0, 0, 0, 8);
        rangeDue(x, 1, 2, 100, 6);
        rangeDue(x, 2, 1, 300, 7);
        rangeDue(x, 3, 0, 500, 5);
        due("ofRange(4, 0)", x.ofRange(4, 0), NO_SUCH);
    }

    @Sentence(in = "Street", says = "There are at most 40 ranges; a call by which there would be more returns TOO_MANY.")
    void streetHasAtMost40Ranges() {
        RangeDeeds x = withRanges(39);
        due("the fortieth", x.give(1, 5000, 3), 40);
        changesNothing(x, () -> {
            due("one more", x.give(1, 5004, 1), TOO_MANY);
            due("two more by a piece in the middle", x.give(2, 5001, 1), TOO_MANY);
            due("one more by a hole in the middle", x.free(5001, 1), TOO_MANY);
            due("one more in a hole", x.grab(1, 4), TOO_MANY);
        });
        due("as many by a hole at an end", x.free(5002, 1), 40);
        due("as many by a meter at an end", x.give(1, 5002, 1), 40);
        due("fewer", x.free(5000, 3), 39);
    }

    @Sentence(in = "Street", says = "There are at most 40 ranges; a call by which there would be more returns TOO_MANY.")
    void streetHasAtMost40RangesInTextsToo() {
        RangeDeeds x = withRanges(39);
        putText(x, "+B999:1;+B997:1;+B0:1");
        due("the second entry is refused", x.carryOut(), 1);
        due("count(2)", x.count(2), 40);
        due("ownerAt(0)", x.ownerAt(0), 0);
    }

    @Sentence(in = "Street", says = "A piece of the street is told by its first meter and its length.")
    void streetPieceIsFirstMeterAndLength() {
        RangeDeeds x = withPoorOwners(1);
        x.give(0, 30, 2);
        due("ownerAt(29)", x.ownerAt(29), NONE);
        due("ownerAt(30)", x.ownerAt(30), 0);
        due("ownerAt(31)", x.ownerAt(31), 0);
        due("ownerAt(32)", x.ownerAt(32), NONE);
        x.free(31, 1);
        due("ownerAt(30)", x.ownerAt(30), 0);
        due("ownerAt(31)", x.ownerAt(31), NONE);
    }

    // ---- owners

    @Sentence(in = "Owners", says = "There are up to 10 owners, numbered in the order in which they came to be;")
    void ownersUpTo10() {
        RangeDeeds x = new RangeDeeds();
        for (int i = 0; i < 10; i++) {
            due("owner " + i, x.owner(100 + i), i);
        }
        changesNothing(x, () -> due("the eleventh", x.owner(100), TOO_MANY));
        for (int i = 0; i < 10; i++) {
            due("money(" + i + ")", x.money(i), 100 + i);
        }
        due("money(10)", x.money(10), NO_SUCH);
    }

    @Sentence(in = "Owners", says = "an owner has money (can be below 0).")
    void ownersMoneyAt0() {
        RangeDeeds x = withOwners(0, 34, 35, 36);
        for (int i = 0; i < 4; i++) {
            x.give(i, 20 * i, 10);
        }
        x.days(1);
        due("below 0 until the range is lost", x.money(0), 0);
        due("below 0 by one cent", x.money(1), 34);
        due("0 is not below 0", x.money(2), 0);
        due("above 0", x.money(3), 1);
        due("ofOwner(1, 0)", x.ofOwner(1, 0), 0);
        due("ofOwner(2, 0)", x.ofOwner(2, 0), 1);
    }

    @Sentence(in = "Owners", says = "An owner may have MOST meters;")
    void ownersMayHaveMostMeters() {
        RangeDeeds x = withPoorOwners(3);
        x.set(MOST, 50);
        due("give 50", x.give(0, 0, 50), 1);
        due("grab 50", x.grab(1, 50), 50);
        due("inherit 50", x.inherit(0, 2), 50);
        due("in two pieces", x.give(0, 200, 20), 3);
        due("in two pieces", x.give(0, 300, 30), 4);
    }

    @Sentence(in = "Owners", says = "a call by which an owner would get meters (that this owner has not yet) and have"
        + " more than MOST then is not possible.")
    void ownersMayNotHaveMoreThanMost() {
        RangeDeeds x = withOwners(1000, 1000);
        x.set(MOST, 50);
        x.give(0, 0, 40);
        changesNothing(x, () -> {
            due("give 11 more", x.give(0, 40, 11), NOT_POSSIBLE);
            due("give 11 more and own ones", x.give(0, 0, 51), NOT_POSSIBLE);
            due("grab 11 more", x.grab(0, 11), NOT_POSSIBLE);
        });
        x.give(1, 100, 11);
        changesNothing(x, () -> due("inherit 11 more", x.inherit(1, 0), NOT_POSSIBLE));
        x.transfer(1, 0, 100, 11, 0);
        changesNothing(x, () -> due("a transfer of 11 more", x.close(), NOT_POSSIBLE));
        due("10 more and own ones", x.give(0, 0, 50), 2);
    }

    @Sentence(in = "Owners", says = "(that this owner has not yet)")
    void ownersAboveMostMayGetOwnMeters() {
        RangeDeeds x = withPoorOwners(2);
        x.give(0, 0, 60);
        x.set(MOST, 50);
        due("own meters only", x.give(0, 10, 20), 1);
        due("all own meters", x.give(0, 0, 60), 1);
        changesNothing(x, () -> {
            due("one meter of none", x.give(0, 60, 1), NOT_POSSIBLE);
            due("one meter of none, and own ones", x.give(0, 59, 2), NOT_POSSIBLE);
            due("one meter of a hole", x.grab(0, 1), NOT_POSSIBLE);
        });
        due("nothing to inherit", x.inherit(1, 0), 0);
    }

    @Sentence(in = "Owners", says = "have more than MOST then")
    void ownersMayTakeFromAnotherAtMost() {
        RangeDeeds x = withPoorOwners(2);
        x.set(MOST, 50);
        x.give(0, 0, 50);
        due("meters that another one has", x.give(1, 0, 50), 1);
        due("the other has none then", x.ofOwner(0, 1), 0);
        due("and may have 50 again", x.grab(0, 50), 50);
    }
}
