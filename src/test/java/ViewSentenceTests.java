/** A test for each sentence of promises 14 to 20. */
public final class ViewSentenceTests extends SentenceTest {
    public static void main(String[] args) throws Exception {
        new ViewSentenceTests().runAll("Promise 14", "Promise 15", "Promise 16", "Promise 17", "Promise 18",
            "Promise 19", "Promise 20");
    }

    // ---- ofRange

    @Sentence(in = "Promise 14", says = "Returns a number about a range.")
    void promise14NumberAboutARange() {
        RangeDeeds x = withPoorOwners(3);
        x.give(2, 30, 7);
        x.give(1, 10, 5);
        changesNothing(x, () -> {
            rangeDue(x, 0, 1, 10, 5);
            rangeDue(x, 1, 2, 30, 7);
        });
    }

    @Sentence(in = "Promise 14", says = "- `what`: 0 its owner, 1 its first meter, 2 its length Returns the number;")
    void promise14AtTheEndsOfTheStreet() {
        RangeDeeds x = withPoorOwners(2);
        x.give(0, 0, 10000);
        rangeDue(x, 0, 0, 0, 10000);
        x.give(1, 9999, 1);
        rangeDue(x, 0, 0, 0, 9999);
        rangeDue(x, 1, 1, 9999, 1);
    }

    @Sentence(in = "Promise 14", says = "Returns the number;")
    void promise14FortyRanges() {
        RangeDeeds x = withRanges(40);
        for (int i = 0; i < 40; i++) {
            rangeDue(x, i, 0, 10 * i, 3);
        }
        due("ofRange(40, 0)", x.ofRange(40, 0), NO_SUCH);
    }

    @Sentence(in = "Promise 14", says = "NO_SUCH if there is no such range;")
    void promise14NoSuchRange() {
        RangeDeeds x = withPoorOwners(1);
        due("none yet", x.ofRange(0, 0), NO_SUCH);
        x.give(0, 10, 5);
        x.give(0, 20, 5);
        due("ofRange(1, 2)", x.ofRange(1, 2), 5);
        due("ofRange(2, 2)", x.ofRange(2, 2), NO_SUCH);
        due("ofRange(-1, 0)", x.ofRange(-1, 0), NO_SUCH);
        due("ofRange(least, 0)", x.ofRange(LEAST, 0), NO_SUCH);
        due("ofRange(greatest, 0)", x.ofRange(GREATEST, 0), NO_SUCH);
        x.free(20, 5);
        due("not any more", x.ofRange(1, 2), NO_SUCH);
    }

    @Sentence(in = "Promise 14", says = "BAD_VALUE if what is out of range.")
    void promise14WhatOutOfRange() {
        RangeDeeds x = withPoorOwners(1);
        x.give(0, 10, 5);
        due("what -1", x.ofRange(0, -1), BAD_VALUE);
        due("what 3", x.ofRange(0, 3), BAD_VALUE);
        due("what least", x.ofRange(0, LEAST), BAD_VALUE);
        due("what greatest", x.ofRange(0, GREATEST), BAD_VALUE);
    }

    @Sentence(in = "Promise 14", says = "NO_SUCH if there is no such range; BAD_VALUE if what is out of range.")
    void promise14ErrorsInTheirOrder() {
        RangeDeeds x = withPoorOwners(1);
        x.give(0, 10, 5);
        due("ofRange(1, 3)", x.ofRange(1, 3), NO_SUCH);
        due("ofRange(-1, -1)", x.ofRange(-1, -1), NO_SUCH);
    }

    // ---- ofOwner

    @Sentence(in = "Promise 15", says = "Returns a number about an owner.")
    void promise15NumberAboutAnOwner() {
        RangeDeeds x = withOwners(1000, 1000);
        x.give(1, 0, 11);
        changesNothing(x, () -> {
            due("ofOwner(0, 1)", x.ofOwner(0, 1), 0);
            due("ofOwner(1, 1)", x.ofOwner(1, 1), 11);
        });
    }

    @Sentence(in = "Promise 15", says = "- `what`: 0 the ranges,")
    void promise15Ranges() {
        RangeDeeds x = withRanges(40);
        due("all 40", x.ofOwner(0, 0), 40);
        due("none", x.ofOwner(1, 0), 0);
        x.give(1, 0, 3);
        due("39", x.ofOwner(0, 0), 39);
        due("one", x.ofOwner(1, 0), 1);
        x.inherit(0, 1);
        due("none", x.ofOwner(0, 0), 0);
    }

    @Sentence(in = "Promise 15", says = "1 all meters,")
    void promise15AllMeters() {
        RangeDeeds x = withPoorOwners(2);
        due("none", x.ofOwner(0, 1), 0);
        giveLengths(x, 1, 20, 300);
        due("of three ranges", x.ofOwner(0, 1), 321);
        x.give(1, 0, 10000);
        due("none any more", x.ofOwner(0, 1), 0);
        due("the whole street", x.ofOwner(1, 1), 10000);
    }

    @Sentence(in = "Promise 15", says = "2 the longest range (its length, 0 without ranges),")
    void promise15TheLongestRange() {
        RangeDeeds x = withPoorOwners(2);
        due("0 without ranges", x.ofOwner(0, 2), 0);
        giveLengths(x, 20, 1, 300, 5);
        x.give(1, 1000, 400);
        due("the third of four", x.ofOwner(0, 2), 300);
        x.free(100, 1);
        due("the longer part of it", x.ofOwner(0, 2), 222);
        x.free(101, 300);
        due("ranges that are no longer there", x.ofOwner(0, 2), 77);
        x.inherit(0, 1);
        due("0 again", x.ofOwner(0, 2), 0);
        x.give(0, 0, 10000);
        due("the whole street", x.ofOwner(0, 2), 10000);
    }

    @Sentence(in = "Promise 15", says = "3 the tax of a day as things are,")
    void promise15TheTaxOfADay() {
        RangeDeeds x = withOwners(0);
        due("without ranges", x.ofOwner(0, 3), 0);
        giveLengths(x, 5, 5);
        due("10 meters", x.ofOwner(0, 3), 60);
        x.give(0, 20, 1);
        due("11 meters", x.ofOwner(0, 3), 95);
        x.set(RANGE_TAX, 1000);
        x.set(LENGTH_TAX, 1000);
        due("as the settings are", x.ofOwner(0, 3), 5000);
        x.give(0, 0, 10000);
        due("the whole street, more than the money", x.ofOwner(0, 3), 1001000);
    }

    @Sentence(in = "Promise 15", says = "4 what was paid as tax so far (less what was given back),")
    void promise15WhatWasPaidAsTax() {
        RangeDeeds x = withOwners(100, 1000);
        giveLengths(x, 10, 10);
        x.give(1, 50, 5);
        due("nothing yet", x.ofOwner(0, 4), 0);
        x.days(1);
        due("one day", x.ofOwner(0, 4), 70);
        x.days(1);
        due("both ranges are given back", x.ofOwner(0, 4), 70);
        due("ofOwner(1, 4)", x.ofOwner(1, 4), 70);
        x.give(0, 0, 5);
        x.pay(0, 40);
        x.days(1);
        due("it is added up", x.ofOwner(0, 4), 105);
        x.inherit(0, 1);
        due("it is not inherited", x.ofOwner(0, 4), 105);
    }

    @Sentence(in = "Promise 15", says = "5 the meters that were lost because the tax could not be paid")
    void promise15MetersThatWereLost() {
        RangeDeeds x = withOwners(35, 1000);
        giveLengths(x, 10, 7);
        due("none yet", x.ofOwner(0, 5), 0);
        x.give(1, 3, 2);
        x.free(0, 1);
        due("not those that another one has", x.ofOwner(0, 5), 0);
        x.undo();
        x.undo();
        x.days(1);
        due("one range", x.ofOwner(0, 5), 7);
        x.days(1);
        due("it is added up", x.ofOwner(0, 5), 17);
        due("ofOwner(1, 5)", x.ofOwner(1, 5), 0);
    }

    @Sentence(in = "Promise 15", says = {"4 what was paid as tax so far", "5 the meters that were lost"})
    void promise15TaxAndLossOfAllTenOwners() {
        RangeDeeds x = withOwners(40, 41, 42, 43, 44, 45, 46, 47, 48, 49);
        for (int i = 0; i < 10; i++) {
            x.give(i, 20 * i, i + 1);
        }
        x.days(2);
        for (int i = 0; i < 10; i++) {
            due("ofOwner(" + i + ", 4)", x.ofOwner(i, 4), 35);
            due("ofOwner(" + i + ", 5)", x.ofOwner(i, 5), i + 1);
            due("money(" + i + ")", x.money(i), 5 + i);
        }
        due("count(9)", x.count(9), 350);
    }

    @Sentence(in = "Promise 15", says = {"Returns the number;", "NO_SUCH if there is no such owner;"})
    void promise15NoSuchOwner() {
        RangeDeeds x = withPoorOwners(10);
        due("ofOwner(9, 0)", x.ofOwner(9, 0), 0);
        due("ofOwner(10, 0)", x.ofOwner(10, 0), NO_SUCH);
        due("ofOwner(-1, 0)", x.ofOwner(-1, 0), NO_SUCH);
        due("ofOwner(least, 0)", x.ofOwner(LEAST, 0), NO_SUCH);
        due("ofOwner(greatest, 0)", x.ofOwner(GREATEST, 0), NO_SUCH);
        due("a street without owners", new RangeDeeds().ofOwner(0, 0), NO_SUCH);
    }

    @Sentence(in = "Promise 15", says = "BAD_VALUE if what is out of range.")
    void promise15WhatOutOfRange() {
        RangeDeeds x = withPoorOwners(1);
        due("what -1", x.ofOwner(0, -1), BAD_VALUE);
        due("what 6", x.ofOwner(0, 6), BAD_VALUE);
        due("what least", x.ofOwner(0, LEAST), BAD_VALUE);
        due("what greatest", x.ofOwner(0, GREATEST), BAD_VALUE);
    }

    @Sentence(in = "Promise 15", says = "NO_SUCH if there is no such owner; BAD_VALUE if what is out of range.")
    void promise15ErrorsInTheirOrder() {
        RangeDeeds x = withPoorOwners(1);
        due("ofOwner(1, 6)", x.ofOwner(1, 6), NO_SUCH);
        due("ofOwner(-1, -1)", x.ofOwner(-1, -1), NO_SUCH);
    }

    // ---- money

    @Sentence(in = "Promise 16", says = "Returns the money of an owner.")
    void promise16MoneyOfAnOwner() {
        RangeDeeds x = withOwners(0, 7, 1000000);
        changesNothing(x, () -> {
            due("money(0)", x.money(0), 0);
            due("money(1)", x.money(1), 7);
            due("money(2)", x.money(2), 1000000);
        });
    }

    @Sentence(in = "Promise 16", says = "Returns the cents, which can be below 0, also -1;")
    void promise16CentsAreNeverAnError() {
        RangeDeeds x = withOwners(34, 29, 35);
        for (int i = 0; i < 3; i++) {
            x.give(i, 50 * i, 10);
        }
        x.days(1);
        due("a tax that would leave -1", x.money(0), 34);
        due("a tax that would leave -6", x.money(1), 29);
        due("a tax that leaves 0", x.money(2), 0);
    }

    @Sentence(in = "Promise 16", says = "NO_SUCH if there is no such owner.")
    void promise16NoSuchOwner() {
        RangeDeeds x = withOwners(5, 6);
        due("money(2)", x.money(2), NO_SUCH);
        due("money(10)", x.money(10), NO_SUCH);
        due("money(-1)", x.money(-1), NO_SUCH);
        due("money(least)", x.money(LEAST), NO_SUCH);
        due("money(greatest)", x.money(GREATEST), NO_SUCH);
        due("a street without owners", new RangeDeeds().money(0), NO_SUCH);
    }

    // ---- ownerAt

    @Sentence(in = "Promise 17", says = {"Returns the owner of a meter.", "Returns the owner;"})
    void promise17OwnerOfAMeter() {
        RangeDeeds x = withPoorOwners(3);
        x.give(1, 100, 10);
        x.give(2, 110, 1);
        x.give(0, 111, 5);
        changesNothing(x, () -> {
            due("ownerAt(100)", x.ownerAt(100), 1);
            due("ownerAt(109)", x.ownerAt(109), 1);
            due("ownerAt(110)", x.ownerAt(110), 2);
            due("ownerAt(111)", x.ownerAt(111), 0);
            due("ownerAt(115)", x.ownerAt(115), 0);
        });
    }

    @Sentence(in = "Promise 17", says = "- `meter`: 0 to 9999")
    void promise17MeterFrom0To9999() {
        RangeDeeds x = withPoorOwners(2);
        x.give(1, 0, 1);
        x.give(0, 9999, 1);
        due("ownerAt(0)", x.ownerAt(0), 1);
        due("ownerAt(9999)", x.ownerAt(9999), 0);
    }

    @Sentence(in = "Promise 17", says = "BAD_VALUE if meter is out of range;")
    void promise17MeterOutOfRange() {
        RangeDeeds x = withPoorOwners(1);
        x.give(0, 0, 10000);
        due("ownerAt(-1)", x.ownerAt(-1), BAD_VALUE);
        due("ownerAt(10000)", x.ownerAt(10000), BAD_VALUE);
        due("ownerAt(least)", x.ownerAt(LEAST), BAD_VALUE);
        due("ownerAt(greatest)", x.ownerAt(GREATEST), BAD_VALUE);
        due("without owners, too", new RangeDeeds().ownerAt(10000), BAD_VALUE);
    }

    @Sentence(in = "Promise 17", says = "NONE if it has none.")
    void promise17NoOwner() {
        RangeDeeds x = withPoorOwners(2);
        due("none at first", x.ownerAt(5000), NONE);
        x.give(0, 100, 10);
        due("before a range", x.ownerAt(99), NONE);
        due("behind a range", x.ownerAt(110), NONE);
        due("the first meter", x.ownerAt(0), NONE);
        due("the last meter", x.ownerAt(9999), NONE);
        x.free(105, 1);
        due("in a hole of one meter", x.ownerAt(105), NONE);
    }

    // ---- ofTransfer

    @Sentence(in = "Promise 18", says = "Returns a number about a transfer of the deal.")
    void promise18NumberAboutATransfer() {
        RangeDeeds x = withPoorOwners(3);
        x.transfer(2, 1, 3, 4, 5);
        changesNothing(x, () -> due("ofTransfer(0, 0)", x.ofTransfer(0, 0), 2));
    }

    @Sentence(in = "Promise 18", says = "- `what`: 0 the first owner, 1 the second one, 2 the first meter, 3 the length,"
        + " 4 the price Returns the number;")
    void promise18EightTransfers() {
        RangeDeeds x = withPoorOwners(10);
        for (int i = 0; i < 8; i++) {
            x.transfer(i, i + 1, 9999 - i, i + 1, 1000000 - i);
        }
        for (int i = 0; i < 8; i++) {
            due("ofTransfer(" + i + ", 0)", x.ofTransfer(i, 0), i);
            due("ofTransfer(" + i + ", 1)", x.ofTransfer(i, 1), i + 1);
            due("ofTransfer(" + i + ", 2)", x.ofTransfer(i, 2), 9999 - i);
            due("ofTransfer(" + i + ", 3)", x.ofTransfer(i, 3), i + 1);
            due("ofTransfer(" + i + ", 4)", x.ofTransfer(i, 4), 1000000 - i);
        }
        due("ofTransfer(8, 0)", x.ofTransfer(8, 0), NO_SUCH);
    }

    @Sentence(in = "Promise 18", says = "NO_SUCH if there is no such transfer;")
    void promise18NoSuchTransfer() {
        RangeDeeds x = withPoorOwners(2);
        due("none yet", x.ofTransfer(0, 0), NO_SUCH);
        x.transfer(0, 1, 3, 4, 5);
        x.transfer(1, 0, 3, 4, 5);
        due("ofTransfer(1, 0)", x.ofTransfer(1, 0), 1);
        due("ofTransfer(2, 0)", x.ofTransfer(2, 0), NO_SUCH);
        due("ofTransfer(-1, 0)", x.ofTransfer(-1, 0), NO_SUCH);
        due("ofTransfer(least, 0)", x.ofTransfer(LEAST, 0), NO_SUCH);
        due("ofTransfer(greatest, 0)", x.ofTransfer(GREATEST, 0), NO_SUCH);
        x.drop();
        due("not any more", x.ofTransfer(1, 0), NO_SUCH);
    }

    @Sentence(in = "Promise 18", says = "BAD_VALUE if what is out of range.")
    void promise18WhatOutOfRange() {
        RangeDeeds x = withPoorOwners(2);
        x.transfer(0, 1, 3, 4, 5);
        x.transfer(1, 0, 3, 4, 5);
        due("what -1", x.ofTransfer(0, -1), BAD_VALUE);
        due("what -1 of the second", x.ofTransfer(1, -1), BAD_VALUE);
        due("what 5", x.ofTransfer(0, 5), BAD_VALUE);
        due("what least", x.ofTransfer(0, LEAST), BAD_VALUE);
        due("what greatest", x.ofTransfer(0, GREATEST), BAD_VALUE);
    }

    @Sentence(in = "Promise 18", says = "NO_SUCH if there is no such transfer; BAD_VALUE if what is out of range.")
    void promise18ErrorsInTheirOrder() {
        RangeDeeds x = withPoorOwners(2);
        x.transfer(0, 1, 3, 4, 5);
        due("ofTransfer(1, 5)", x.ofTransfer(1, 5), NO_SUCH);
        due("ofTransfer(-1, -1)", x.ofTransfer(-1, -1), NO_SUCH);
    }

    // ---- count

    @Sentence(in = "Promise 19", says = {"Returns a number about all.", "Returns the number;"})
    void promise19NumberAboutAll() {
        RangeDeeds x = new RangeDeeds();
        int[] due = {0, 0, 0, 0, 1, 10000, 0, 0, 0, 0, 0, 0, 10, 25, 5, 1, 10000};
        for (int what = 0; what < due.length; what++) {
            due("count(" + what + ")", x.count(what), due[what]);
        }
        changesNothing(x, () -> due("count(0)", x.count(0), 0));
    }

    @Sentence(in = "Promise 19", says = "- `what`: 0 the present day, 1 owners, 2 ranges,")
    void promise19DayOwnersAndRanges() {
        RangeDeeds x = withPoorOwners(9);
        x.owner(1000000);
        x.give(9, 0, 10);
        x.give(9, 20, 10);
        x.days(60);
        due("count(0)", x.count(0), 60);
        due("count(1)", x.count(1), 10);
        due("count(2)", x.count(2), 2);
        RangeDeeds full = withRanges(40);
        due("40 ranges", full.count(2), 40);
    }

    @Sentence(in = "Promise 19", says = "3 meters that have an owner,")
    void promise19MetersThatHaveAnOwner() {
        RangeDeeds x = withPoorOwners(2);
        due("none", x.count(3), 0);
        x.give(0, 0, 1);
        x.give(1, 9999, 1);
        due("of both owners", x.count(3), 2);
        x.give(1, 0, 9999);
        due("all", x.count(3), 10000);
        x.free(5000, 1);
        due("all but one", x.count(3), 9999);
    }

    @Sentence(in = "Promise 19", says = "4 holes,")
    void promise19Holes() {
        RangeDeeds x = withPoorOwners(2);
        due("the whole street", x.count(4), 1);
        x.give(0, 0, 10);
        due("not before the first meter", x.count(4), 1);
        x.give(1, 10, 10);
        due("not between two that are side by side", x.count(4), 1);
        x.give(0, 9990, 10);
        due("not behind the last meter", x.count(4), 1);
        x.give(0, 5000, 1);
        due("on both sides of a range", x.count(4), 2);
        x.give(0, 0, 10000);
        due("none", x.count(4), 0);
        x.free(0, 1);
        x.free(9999, 1);
        due("at both ends", x.count(4), 2);
    }

    @Sentence(in = "Promise 19", says = "5 the longest hole (its length),")
    void promise19TheLongestHole() {
        RangeDeeds x = withPoorOwners(1);
        due("the whole street", x.count(5), 10000);
        x.give(0, 100, 9800);
        due("100 at both ends", x.count(5), 100);
        x.free(5000, 101);
        due("in the middle", x.count(5), 101);
        x.give(0, 5050, 1);
        due("at the first end again", x.count(5), 100);
        x.give(0, 0, 100);
        due("at the last end", x.count(5), 100);
        x.give(0, 0, 10000);
        due("no hole", x.count(5), 0);
    }

    @Sentence(in = "Promise 19", says = "6 transfers of the deal, 7 deals that were closed,")
    void promise19TransfersAndDeals() {
        RangeDeeds x = withOwners(1000, 1000);
        x.give(0, 0, 10);
        due("no transfers", x.count(6), 0);
        for (int i = 0; i < 8; i++) {
            x.transfer(0, 1, i, 1, 0);
        }
        due("8 transfers", x.count(6), 8);
        due("no deal was closed", x.count(7), 0);
        x.close();
        due("no transfers", x.count(6), 0);
        due("one deal, not eight", x.count(7), 1);
        x.close();
        due("not one without transfers", x.count(7), 1);
        x.transfer(0, 1, 0, 1, 0);
        x.close();
        due("not one that fails", x.count(7), 1);
    }

    @Sentence(in = "Promise 19", says = "8 what was paid as FEE,")
    void promise19Fees() {
        RangeDeeds x = withOwners(1000, 5000);
        x.give(0, 0, 10);
        due("nothing", x.count(8), 0);
        x.transfer(0, 1, 0, 1, 300);
        due("nothing before it is closed", x.count(8), 0);
        x.close();
        due("not the price", x.count(8), 5);
        x.set(FEE, 1000);
        due("at the FEE that it was", x.count(8), 5);
        x.transfer(0, 1, 1, 1, 0);
        x.transfer(0, 1, 2, 1, 0);
        x.close();
        due("twice 1000 more", x.count(8), 2005);
    }

    @Sentence(in = "Promise 19", says = "9 what was paid as tax (less what was given back),")
    void promise19Taxes() {
        RangeDeeds x = withOwners(100, 20, 1000);
        x.give(0, 0, 10);
        x.give(1, 20, 10);
        x.give(2, 40, 10);
        due("nothing", x.count(9), 0);
        x.days(1);
        due("two of the three", x.count(9), 70);
        x.days(2);
        due("five times", x.count(9), 175);
        x.inherit(2, 1);
        due("as it was", x.count(9), 175);
    }

    @Sentence(in = "Promise 19", says = "10 the length of the pad,")
    void promise19LengthOfThePad() {
        RangeDeeds x = new RangeDeeds();
        due("empty", x.count(10), 0);
        for (int i = 1; i <= 10; i++) {
            x.put(signs("12345678"));
            due("count(10)", x.count(10), 8 * i);
        }
        x.put('1');
        due("full", x.count(10), 80);
        x.wipe();
        due("empty again", x.count(10), 0);
    }

    @Sentence(in = "Promise 19", says = "11 how many changes can be undone,")
    void promise19ChangesThatCanBeUndone() {
        RangeDeeds x = new RangeDeeds();
        due("none", x.count(11), 0);
        for (int i = 1; i <= 8; i++) {
            x.days(1);
            due("behind change " + i, x.count(11), Math.min(i, 6));
        }
        for (int i = 5; i >= 0; i--) {
            x.undo();
            due("behind undo()", x.count(11), i);
        }
    }

    @Sentence(in = "Promise 19", says = "12 to 16 the settings")
    void promise19Settings() {
        RangeDeeds x = new RangeDeeds();
        for (int setting = 0; setting < 5; setting++) {
            x.set(setting, 21 + setting);
        }
        for (int setting = 0; setting < 5; setting++) {
            due("count(" + (12 + setting) + ")", x.count(12 + setting), 21 + setting);
        }
    }

    @Sentence(in = "Promise 19", says = "BAD_VALUE if what is out of range.")
    void promise19WhatOutOfRange() {
        RangeDeeds x = withPoorOwners(1);
        due("count(-1)", x.count(-1), BAD_VALUE);
        due("count(17)", x.count(17), BAD_VALUE);
        due("count(least)", x.count(LEAST), BAD_VALUE);
        due("count(greatest)", x.count(GREATEST), BAD_VALUE);
    }

    // ---- shareBits

    /** Looks at the shares of two owners who have so many meters. */
    private void sharesDue(int first, int second) {
        RangeDeeds x = withPoorOwners(2);
        if (first > 0) {
            x.give(0, 0, first);
        }
        if (second > 0) {
            x.give(1, first, second);
        }
        double all = first + second;
        due(first + " of " + all, x.shareBits(0), Float.floatToIntBits((float) (first / all)));
        due(second + " of " + all, x.shareBits(1), Float.floatToIntBits((float) (second / all)));
    }

    @Sentence(in = "Promise 20", says = {"Returns the share of an owner in all meters that have an owner, as a number"
        + " with a point.", "Returns Float.floatToIntBits((float) ((double) meters of the owner / meters that have an"
        + " owner)),"})
    void promise20Share() {
        sharesDue(1, 2);
        sharesDue(1, 6);
        sharesDue(5, 5);
        sharesDue(1, 9999);
        sharesDue(3333, 6667);
        sharesDue(4999, 5001);
        sharesDue(1023, 1);
        RangeDeeds x = withPoorOwners(3);
        x.give(0, 0, 30);
        x.give(1, 50, 30);
        x.give(2, 100, 30);
        x.give(0, 200, 10);
        due("of several ranges", x.shareBits(0), Float.floatToIntBits((float) (40.0 / 100)));
        changesNothing(x, () -> due("of others", x.shareBits(2), Float.floatToIntBits((float) (30.0 / 100))));
    }

    @Sentence(in = "Promise 20", says = "meters of the owner / meters that have an owner")
    void promise20AllMetersAndNone() {
        sharesDue(10000, 0);
        sharesDue(0, 10000);
        sharesDue(1, 0);
        RangeDeeds x = withPoorOwners(2);
        x.give(0, 0, 1);
        due("one", x.shareBits(0), 0x3f800000);
        due("nothing", x.shareBits(1), 0);
    }

    @Sentence(in = "Promise 20", says = "0 if no meter has an owner;")
    void promise20NoMeterHasAnOwner() {
        RangeDeeds x = withPoorOwners(2);
        due("none yet", x.shareBits(0), 0);
        x.give(0, 0, 10000);
        x.free(0, 10000);
        due("none any more", x.shareBits(0), 0);
        due("none any more", x.shareBits(1), 0);
    }

    @Sentence(in = "Promise 20", says = "NO_SUCH if there is no such owner.")
    void promise20NoSuchOwner() {
        RangeDeeds x = withPoorOwners(2);
        due("shareBits(2), no meter has an owner", x.shareBits(2), NO_SUCH);
        x.give(0, 0, 10);
        due("shareBits(2)", x.shareBits(2), NO_SUCH);
        due("shareBits(-1)", x.shareBits(-1), NO_SUCH);
        due("shareBits(least)", x.shareBits(LEAST), NO_SUCH);
        due("shareBits(greatest)", x.shareBits(GREATEST), NO_SUCH);
    }
}
