/** A test for each sentence of promises 1 to 4. */
public final class SettingUpSentenceTests extends SentenceTest {
    public static void main(String[] args) throws Exception {
        new SettingUpSentenceTests().runAll("Promise 1", "Promise 2", "Promise 3", "Promise 4");
    }

    // ---- a new object

    @Sentence(in = "Promise 1", says = "Creates a street without owners.")
    void promise01StreetWithoutOwners() {
        RangeDeeds x = new RangeDeeds();
        due("owners", x.count(1), 0);
        due("ranges", x.count(2), 0);
        due("meters that have an owner", x.count(3), 0);
        due("holes", x.count(4), 1);
        due("the longest hole", x.count(5), 10000);
        due("ownerAt(0)", x.ownerAt(0), NONE);
        due("ownerAt(9999)", x.ownerAt(9999), NONE);
        due("ofOwner(0, 0)", x.ofOwner(0, 0), NO_SUCH);
        due("ofRange(0, 0)", x.ofRange(0, 0), NO_SUCH);
        due("ofTransfer(0, 0)", x.ofTransfer(0, 0), NO_SUCH);
    }

    @Sentence(in = "Promise 1", says = "Creates a street without owners.")
    void promise01NothingElseIsThere() {
        RangeDeeds x = new RangeDeeds();
        int[] others = {6, 7, 8, 9, 10, 11};
        for (int what : others) {
            due("count(" + what + ")", x.count(what), 0);
        }
        due("undo()", x.undo(), NOT_POSSIBLE);
        due("drop()", x.drop(), NOT_POSSIBLE);
        due("close()", x.close(), NOT_POSSIBLE);
        due("failing()", x.failing(), NONE);
        due("carryOut()", x.carryOut(), BAD_TEXT);
        due("restore(0)", x.restore(0), NOT_POSSIBLE);
        due("restore(1)", x.restore(1), NOT_POSSIBLE);
        due("the first owner", x.give(0, 0, 1), NO_SUCH);
    }

    @Sentence(in = "Promise 1", says = "Creates a street without owners.")
    void promise01StreetOfItsOwn() {
        RangeDeeds first = withOwners(10, 20);
        first.give(1, 0, 10000);
        first.set(FEE, 6);
        first.put('d');
        first.save(0);
        first.transfer(0, 1, 0, 1, 0);
        first.days(3);
        RangeDeeds second = new RangeDeeds();
        samePicture("another object", picture(second, true), picture(new RangeDeeds(), true));
        due("its slot", second.restore(0), NOT_POSSIBLE);
    }

    // ---- set

    @Sentence(in = "Promise 2", says = "Changes a setting; the street stays as it is.")
    void promise02StreetStaysAsItIs() {
        RangeDeeds x = withOwners(0, 1000);
        x.give(0, 0, 200);
        x.give(1, 300, 4);
        x.transfer(1, 0, 300, 4, 7);
        due("MOST below what owners have", x.set(MOST, 1), 10000);
        due("SHORTEST above what ranges have", x.set(SHORTEST, 100), 1);
        due("a LENGTH_TAX that cannot be paid", x.set(LENGTH_TAX, 1000), 10);
        due("a RANGE_TAX that cannot be paid", x.set(RANGE_TAX, 1000), 25);
        due("a FEE that cannot be paid", x.set(FEE, 1000), 5);
        due("count(2)", x.count(2), 2);
        rangeDue(x, 0, 0, 0, 200);
        rangeDue(x, 1, 1, 300, 4);
        due("money(0)", x.money(0), 0);
        due("the deal stays, too", x.count(6), 1);
    }

    @Sentence(in = "Promise 2", says = "This is a change.")
    void promise02IsAChange() {
        RangeDeeds x = withOwners(5);
        isOneChange(x, () -> due("set", x.set(SHORTEST, 100), 1));
        isOneChange(x, () -> due("set as it was", x.set(SHORTEST, 1), 1));
    }

    @Sentence(in = "Promise 2", says = "Returns the previous value;")
    void promise02ReturnsThePreviousValue() {
        RangeDeeds x = new RangeDeeds();
        due("first value", x.set(LENGTH_TAX, 0), 10);
        due("0", x.set(LENGTH_TAX, 1000), 0);
        due("1000", x.set(LENGTH_TAX, 1000), 1000);
        due("the same again", x.set(LENGTH_TAX, 7), 1000);
        due("another setting", x.set(MOST, 1), 10000);
        due("7 is kept", x.count(12), 7);
        due("1 is kept", x.count(16), 1);
    }

    @Sentence(in = "Promise 2", says = "BAD_VALUE if there is no such setting,")
    void promise02NoSuchSetting() {
        RangeDeeds x = new RangeDeeds();
        changesNothing(x, () -> {
            due("set(-1, 1)", x.set(-1, 1), BAD_VALUE);
            due("set(5, 1)", x.set(5, 1), BAD_VALUE);
            due("set(least, 1)", x.set(LEAST, 1), BAD_VALUE);
            due("set(greatest, 1)", x.set(GREATEST, 1), BAD_VALUE);
        });
        due("set(0, 1)", x.set(0, 1), 10);
        due("set(4, 1)", x.set(4, 1), 10000);
    }

    @Sentence(in = "Promise 2", says = "or the value is out of its range.")
    void promise02ValueTooSmall() {
        RangeDeeds x = new RangeDeeds();
        int[] lowest = {0, 0, 0, 1, 1};
        for (int setting = 0; setting < 5; setting++) {
            int number = setting;
            changesNothing(x, () -> {
                due("set(" + number + ", lowest - 1)", x.set(number, lowest[number] - 1), BAD_VALUE);
                due("set(" + number + ", least)", x.set(number, LEAST), BAD_VALUE);
            });
            due("set(" + number + ", lowest)", x.set(number, lowest[number]), new RangeDeeds().count(12 + number));
        }
    }

    @Sentence(in = "Promise 2", says = "or the value is out of its range.")
    void promise02ValueTooLarge() {
        RangeDeeds x = new RangeDeeds();
        int[] highest = {1000, 1000, 1000, 100, 10000};
        for (int setting = 0; setting < 5; setting++) {
            int number = setting;
            changesNothing(x, () -> {
                due("set(" + number + ", highest + 1)", x.set(number, highest[number] + 1), BAD_VALUE);
                due("set(" + number + ", greatest)", x.set(number, GREATEST), BAD_VALUE);
            });
            due("set(" + number + ", highest)", x.set(number, highest[number]), new RangeDeeds().count(12 + number));
        }
    }

    // ---- owner

    @Sentence(in = "Promise 3", says = "Adds an owner.")
    void promise03AddsAnOwner() {
        RangeDeeds x = new RangeDeeds();
        x.owner(77);
        due("count(1)", x.count(1), 1);
        due("money(0)", x.money(0), 77);
        for (int what = 0; what < 6; what++) {
            due("ofOwner(0, " + what + ")", x.ofOwner(0, what), 0);
        }
        due("give", x.give(0, 0, 1), 1);
    }

    @Sentence(in = "Promise 3", says = "Adds an owner.")
    void promise03NothingOfAnOwnerThatWasUndone() {
        RangeDeeds x = withOwners(35);
        x.give(0, 0, 10);
        x.days(2);
        due("what was lost", x.ofOwner(0, 5), 10);
        for (int i = 3; i >= 0; i--) {
            x.undo();
        }
        due("the number is free again", x.owner(5), 0);
        due("money(0)", x.money(0), 5);
        for (int what = 0; what < 6; what++) {
            due("ofOwner(0, " + what + ")", x.ofOwner(0, what), 0);
        }
    }

    @Sentence(in = "Promise 3", says = "This is a change.")
    void promise03IsAChange() {
        RangeDeeds x = new RangeDeeds();
        isOneChange(x, () -> due("owner(0)", x.owner(0), 0));
        x.owner(1);
        isOneChange(x, () -> due("owner(5)", x.owner(5), 1));
    }

    @Sentence(in = "Promise 3", says = "- `money`: 0 to 1000000")
    void promise03MoneyFrom0To1000000() {
        RangeDeeds x = new RangeDeeds();
        due("owner(0)", x.owner(0), 0);
        due("owner(1)", x.owner(1), 1);
        due("owner(999999)", x.owner(999999), 2);
        due("owner(1000000)", x.owner(1000000), 3);
        due("money(0)", x.money(0), 0);
        due("money(1)", x.money(1), 1);
        due("money(2)", x.money(2), 999999);
        due("money(3)", x.money(3), 1000000);
    }

    @Sentence(in = "Promise 3", says = "Returns the number;")
    void promise03ReturnsTheNumber() {
        RangeDeeds x = new RangeDeeds();
        due("owner(9)", x.owner(9), 0);
        due("owner(-1)", x.owner(-1), BAD_VALUE);
        due("owner(9), a refused one takes no number", x.owner(9), 1);
        x.undo();
        due("owner(9), an undone one leaves its number", x.owner(9), 1);
    }

    @Sentence(in = "Promise 3", says = "BAD_VALUE if money is out of range;")
    void promise03MoneyOutOfRange() {
        RangeDeeds x = new RangeDeeds();
        changesNothing(x, () -> {
            due("owner(-1)", x.owner(-1), BAD_VALUE);
            due("owner(1000001)", x.owner(1000001), BAD_VALUE);
            due("owner(least)", x.owner(LEAST), BAD_VALUE);
            due("owner(greatest)", x.owner(GREATEST), BAD_VALUE);
        });
    }

    @Sentence(in = "Promise 3", says = "TOO_MANY if there are 10 owners.")
    void promise03TenOwners() {
        RangeDeeds x = withPoorOwners(9);
        due("the tenth", x.owner(3), 9);
        changesNothing(x, () -> {
            due("the eleventh", x.owner(0), TOO_MANY);
            due("the eleventh", x.owner(1000000), TOO_MANY);
        });
        x.undo();
        due("the tenth again", x.owner(4), 9);
        due("money(9)", x.money(9), 4);
    }

    @Sentence(in = "Promise 3", says = "BAD_VALUE if money is out of range; TOO_MANY if there are 10 owners.")
    void promise03ErrorsInTheirOrder() {
        RangeDeeds x = withPoorOwners(10);
        due("owner(-1)", x.owner(-1), BAD_VALUE);
        due("owner(1000001)", x.owner(1000001), BAD_VALUE);
        due("owner(0)", x.owner(0), TOO_MANY);
    }

    // ---- pay

    @Sentence(in = "Promise 4", says = "An owner pays money in.")
    void promise04PaysMoneyIn() {
        RangeDeeds x = withOwners(10, 20, 30);
        x.pay(1, 7);
        due("money(0)", x.money(0), 10);
        due("money(1)", x.money(1), 27);
        due("money(2)", x.money(2), 30);
        due("no tax", x.count(9), 0);
        due("no fee", x.count(8), 0);
    }

    @Sentence(in = "Promise 4", says = "This is a change.")
    void promise04IsAChange() {
        RangeDeeds x = withOwners(10);
        isOneChange(x, () -> due("pay(0, 5)", x.pay(0, 5), 1));
        isOneChange(x, () -> due("pay(0, 0)", x.pay(0, 0), 1));
    }

    @Sentence(in = "Promise 4", says = "- `cents`: 0 to 1000000")
    void promise04CentsFrom0To1000000() {
        RangeDeeds x = withOwners(0);
        due("pay(0, 0)", x.pay(0, 0), 1);
        due("money(0)", x.money(0), 0);
        due("pay(0, 1)", x.pay(0, 1), 1);
        due("money(0)", x.money(0), 1);
        due("pay(0, 1000000)", x.pay(0, 1000000), 1);
        due("money(0), above what an owner has at first", x.money(0), 1000001);
    }

    @Sentence(in = "Promise 4", says = "Returns 1 if the money is at least 0 then, otherwise 0;")
    void promise04Returns1From0CentsOn() {
        RangeDeeds x = withOwners(0);
        due("0 cents", x.pay(0, 0), 1);
        x.give(0, 0, 10);
        x.days(1);
        due("0 cents, behind a tax that could not be paid", x.pay(0, 0), 1);
        due("1 cent", x.pay(0, 1), 1);
    }

    @Sentence(in = "Promise 4", says = "NO_SUCH if there is no such owner;")
    void promise04NoSuchOwner() {
        RangeDeeds x = withOwners(10, 20);
        changesNothing(x, () -> {
            due("pay(2, 5)", x.pay(2, 5), NO_SUCH);
            due("pay(-1, 5)", x.pay(-1, 5), NO_SUCH);
            due("pay(10, 5)", x.pay(10, 5), NO_SUCH);
            due("pay(least, 5)", x.pay(LEAST, 5), NO_SUCH);
            due("pay(greatest, 5)", x.pay(GREATEST, 5), NO_SUCH);
        });
        due("pay on a street without owners", new RangeDeeds().pay(0, 5), NO_SUCH);
    }

    @Sentence(in = "Promise 4", says = "BAD_VALUE if cents is out of range.")
    void promise04CentsOutOfRange() {
        RangeDeeds x = withOwners(10);
        changesNothing(x, () -> {
            due("pay(0, -1)", x.pay(0, -1), BAD_VALUE);
            due("pay(0, 1000001)", x.pay(0, 1000001), BAD_VALUE);
            due("pay(0, least)", x.pay(0, LEAST), BAD_VALUE);
            due("pay(0, greatest)", x.pay(0, GREATEST), BAD_VALUE);
        });
    }

    @Sentence(in = "Promise 4", says = "NO_SUCH if there is no such owner; BAD_VALUE if cents is out of range.")
    void promise04ErrorsInTheirOrder() {
        RangeDeeds x = withOwners(10);
        due("pay(1, -1)", x.pay(1, -1), NO_SUCH);
        due("pay(-1, 1000001)", x.pay(-1, 1000001), NO_SUCH);
    }
}
