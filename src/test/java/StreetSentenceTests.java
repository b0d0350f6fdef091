/** A test for each sentence of promises 5 to 8. */
public final class StreetSentenceTests extends SentenceTest {
    public static void main(String[] args) throws Exception {
        new StreetSentenceTests().runAll("Promise 5", "Promise 6", "Promise 7", "Promise 8");
    }

    // ---- give

    @Sentence(in = "Promise 5", says = "Gives a piece of the street to an owner, whoever has its meters.")
    void promise05WhoeverHasItsMeters() {
        RangeDeeds x = withOwners(100, 200, 300);
        x.give(0, 0, 10);
        x.give(1, 20, 10);
        due("of two owners, and of none between them", x.give(2, 5, 20), 3);
        rangeDue(x, 0, 0, 0, 5);
        rangeDue(x, 1, 2, 5, 20);
        rangeDue(x, 2, 1, 25, 5);
        due("of its own, of others and of none", x.give(2, 0, 31), 1);
        rangeDue(x, 0, 2, 0, 31);
        due("ofOwner(0, 1)", x.ofOwner(0, 1), 0);
        due("ofOwner(1, 1)", x.ofOwner(1, 1), 0);
        due("ofOwner(2, 1)", x.ofOwner(2, 1), 31);
        due("nobody pays", x.money(0) + x.money(1) + x.money(2), 600);
    }

    @Sentence(in = "Promise 5", says = "This is a change.")
    void promise05IsAChange() {
        RangeDeeds x = withPoorOwners(2);
        isOneChange(x, () -> due("give(0, 0, 10)", x.give(0, 0, 10), 1));
        x.give(0, 0, 10);
        isOneChange(x, () -> due("give(1, 5, 1)", x.give(1, 5, 1), 3));
        isOneChange(x, () -> due("own meters", x.give(0, 3, 4), 1));
    }

    @Sentence(in = "Promise 5", says = "- `first`: 0 to 9999")
    void promise05FirstFrom0To9999() {
        RangeDeeds x = withPoorOwners(1);
        due("give(0, 0, 1)", x.give(0, 0, 1), 1);
        due("give(0, 9999, 1)", x.give(0, 9999, 1), 2);
        rangeDue(x, 0, 0, 0, 1);
        rangeDue(x, 1, 0, 9999, 1);
    }

    @Sentence(in = "Promise 5", says = "- `length`: 1 to 10000;")
    void promise05LengthFrom1To10000() {
        RangeDeeds x = withPoorOwners(2);
        due("give(0, 50, 1)", x.give(0, 50, 1), 1);
        rangeDue(x, 0, 0, 50, 1);
        due("give(1, 0, 10000)", x.give(1, 0, 10000), 1);
        rangeDue(x, 0, 1, 0, 10000);
    }

    @Sentence(in = "Promise 5", says = "the piece ends at meter 9999 or earlier")
    void promise05EndsAtMeter9999OrEarlier() {
        RangeDeeds x = withPoorOwners(1);
        changesNothing(x, () -> {
            due("ends at 10000", x.give(0, 9999, 2), BAD_VALUE);
            due("ends at 10000", x.give(0, 1, 10000), BAD_VALUE);
            due("ends at 10000", x.give(0, 5000, 5001), BAD_VALUE);
        });
        due("ends at 9999", x.give(0, 5000, 5000), 1);
        due("ends at 9998", x.give(0, 9998, 1), 1);
        due("ownerAt(9999)", x.ownerAt(9999), 0);
    }

    @Sentence(in = "Promise 5", says = "Returns how many ranges there are then;")
    void promise05ReturnsHowManyRanges() {
        RangeDeeds x = withPoorOwners(2);
        due("the first", x.give(0, 100, 10), 1);
        due("one meter apart", x.give(0, 111, 10), 2);
        due("the meter between joins them", x.give(0, 110, 1), 1);
        due("in the middle", x.give(1, 110, 1), 3);
        due("at its first meter", x.give(1, 100, 1), 4);
        due("at its last meter", x.give(1, 120, 1), 5);
        due("beside it, joined", x.give(1, 121, 1), 5);
        due("of another owner, beside it", x.give(0, 122, 1), 6);
        due("from its first meter to its last one", x.give(0, 100, 1), 5);
        due("over all", x.give(1, 99, 30), 1);
    }

    @Sentence(in = "Promise 5", says = "NO_SUCH if there is no such owner;")
    void promise05NoSuchOwner() {
        RangeDeeds x = withPoorOwners(2);
        changesNothing(x, () -> {
            due("give(2, 0, 1)", x.give(2, 0, 1), NO_SUCH);
            due("give(-1, 0, 1)", x.give(-1, 0, 1), NO_SUCH);
            due("give(-6, 0, 1)", x.give(-6, 0, 1), NO_SUCH);
            due("give(least, 0, 1)", x.give(LEAST, 0, 1), NO_SUCH);
            due("give(greatest, 0, 1)", x.give(GREATEST, 0, 1), NO_SUCH);
        });
    }

    @Sentence(in = "Promise 5", says = "BAD_VALUE if first or length is out of range;")
    void promise05FirstOutOfRange() {
        RangeDeeds x = withPoorOwners(1);
        changesNothing(x, () -> {
            due("give(0, -1, 1)", x.give(0, -1, 1), BAD_VALUE);
            due("give(0, -1, 10000)", x.give(0, -1, 10000), BAD_VALUE);
            due("give(0, 10000, 1)", x.give(0, 10000, 1), BAD_VALUE);
            due("give(0, least, 1)", x.give(0, LEAST, 1), BAD_VALUE);
            due("give(0, greatest, 1)", x.give(0, GREATEST, 1), BAD_VALUE);
        });
    }

    @Sentence(in = "Promise 5", says = "BAD_VALUE if first or length is out of range;")
    void promise05LengthOutOfRange() {
        RangeDeeds x = withPoorOwners(1);
        x.give(0, 0, 5);
        changesNothing(x, () -> {
            due("give(0, 0, 0)", x.give(0, 0, 0), BAD_VALUE);
            due("give(0, 9999, 0)", x.give(0, 9999, 0), BAD_VALUE);
            due("give(0, 5, -1)", x.give(0, 5, -1), BAD_VALUE);
            due("give(0, 0, 10001)", x.give(0, 0, 10001), BAD_VALUE);
            due("give(0, 0, least)", x.give(0, 0, LEAST), BAD_VALUE);
        });
    }

    @Sentence(in = "Promise 5", says = "BAD_VALUE if first or length is out of range;")
    void promise05FirstAndLengthBeyondTheInts() {
        RangeDeeds x = withPoorOwners(1);
        changesNothing(x, () -> {
            due("give(0, 1, greatest)", x.give(0, 1, GREATEST), BAD_VALUE);
            due("give(0, 9999, greatest)", x.give(0, 9999, GREATEST), BAD_VALUE);
            due("give(0, greatest, greatest)", x.give(0, GREATEST, GREATEST), BAD_VALUE);
            due("give(0, least, least)", x.give(0, LEAST, LEAST), BAD_VALUE);
            due("give(0, greatest, least)", x.give(0, GREATEST, LEAST), BAD_VALUE);
        });
    }

    @Sentence(in = "Promise 5", says = "TOO_MANY (ranges);")
    void promise05TooManyRanges() {
        RangeDeeds x = withRanges(40);
        changesNothing(x, () -> {
            due("41 ranges", x.give(0, 5000, 1), TOO_MANY);
            due("41 ranges, beside another owner's", x.give(1, 3, 1), TOO_MANY);
            due("42 ranges", x.give(1, 1, 1), TOO_MANY);
        });
        due("40 ranges, one is longer", x.give(0, 3, 1), 40);
        due("40 ranges, a whole one", x.give(1, 10, 3), 40);
        due("40 ranges, up to another owner's", x.give(0, 4, 6), 40);
        due("39 ranges, two are joined", x.give(0, 23, 7), 39);
    }

    @Sentence(in = "Promise 5", says = "NOT_POSSIBLE (MOST: only meters that the owner has not yet count).")
    void promise05Most() {
        RangeDeeds x = withPoorOwners(2);
        x.set(MOST, 20);
        changesNothing(x, () -> due("21 meters", x.give(0, 0, 21), NOT_POSSIBLE));
        due("20 meters", x.give(0, 0, 20), 1);
        due("20 meters, all its own", x.give(0, 0, 20), 1);
        changesNothing(x, () -> due("21 meters, 20 of them its own", x.give(0, 0, 21), NOT_POSSIBLE));
        changesNothing(x, () -> due("one meter far away", x.give(0, 500, 1), NOT_POSSIBLE));
        x.free(19, 1);
        due("20 meters, 19 of them its own", x.give(0, 0, 20), 1);
        x.give(1, 5, 10);
        due("10 meters that it has not, and 10 that it has", x.give(0, 0, 20), 1);
    }

    @Sentence(in = "Promise 5", says = "only meters that the owner has not yet count")
    void promise05MetersThatTheOwnerHasNoLonger() {
        RangeDeeds x = withPoorOwners(2);
        x.set(MOST, 20);
        x.give(0, 0, 20);
        x.free(0, 20);
        changesNothing(x, () -> due("21 meters, 20 of which it had", x.give(0, 0, 21), NOT_POSSIBLE));
        x.give(0, 0, 20);
        x.give(1, 0, 20);
        changesNothing(x, () -> due("21 meters, 20 of which it had", x.give(0, 0, 21), NOT_POSSIBLE));
        due("20 meters that it had", x.give(0, 0, 20), 1);
    }

    @Sentence(in = "Promise 5", says = "NO_SUCH if there is no such owner; BAD_VALUE if first or length is out of range;"
        + " TOO_MANY (ranges); NOT_POSSIBLE")
    void promise05ErrorsInTheirOrder() {
        RangeDeeds x = withRanges(40);
        x.set(MOST, 3);
        due("NO_SUCH comes first", x.give(3, -1, 0), NO_SUCH);
        due("BAD_VALUE comes next", x.give(0, 9990, 11), BAD_VALUE);
        due("TOO_MANY comes next", x.give(1, 5000, 4), TOO_MANY);
        due("NOT_POSSIBLE comes last", x.give(1, 10, 4), NOT_POSSIBLE);
    }

    // ---- free

    @Sentence(in = "Promise 6", says = "Makes a piece of the street a hole, whoever has its meters.")
    void promise06WhoeverHasItsMeters() {
        RangeDeeds x = withOwners(100, 200);
        x.give(0, 0, 10);
        x.give(1, 10, 10);
        due("of two owners, and of none", x.free(5, 20), 1);
        rangeDue(x, 0, 0, 0, 5);
        due("a hole of a hole", x.free(100, 9900), 1);
        due("the rest", x.free(0, 5), 0);
        due("one hole", x.count(5), 10000);
        due("nobody is paid", x.money(0) + x.money(1), 300);
        due("nothing is lost by tax", x.ofOwner(0, 5), 0);
    }

    @Sentence(in = "Promise 6", says = "This is a change.")
    void promise06IsAChange() {
        RangeDeeds x = withPoorOwners(1);
        isOneChange(x, () -> due("free(0, 10000)", x.free(0, 10000), 0));
        x.give(0, 0, 10);
        isOneChange(x, () -> due("free(5, 1)", x.free(5, 1), 2));
    }

    @Sentence(in = "Promise 6", says = "- `first`: 0 to 9999")
    void promise06FirstFrom0To9999() {
        RangeDeeds x = withPoorOwners(1);
        x.give(0, 0, 10000);
        due("free(0, 1)", x.free(0, 1), 1);
        due("free(9999, 1)", x.free(9999, 1), 1);
        rangeDue(x, 0, 0, 1, 9998);
    }

    @Sentence(in = "Promise 6", says = "- `length`: 1 to 10000;")
    void promise06LengthFrom1To10000() {
        RangeDeeds x = withPoorOwners(1);
        x.give(0, 0, 10000);
        due("free(5000, 1)", x.free(5000, 1), 2);
        due("count(5)", x.count(5), 1);
        due("free(0, 10000)", x.free(0, 10000), 0);
        due("count(5)", x.count(5), 10000);
    }

    @Sentence(in = "Promise 6", says = "the piece ends at meter 9999 or earlier")
    void promise06EndsAtMeter9999OrEarlier() {
        RangeDeeds x = withPoorOwners(1);
        x.give(0, 0, 10000);
        changesNothing(x, () -> {
            due("ends at 10000", x.free(9999, 2), BAD_VALUE);
            due("ends at 10000", x.free(1, 10000), BAD_VALUE);
            due("ends at 10000", x.free(5000, 5001), BAD_VALUE);
        });
        due("ends at 9998", x.free(9998, 1), 2);
        due("ends at 9999", x.free(5000, 5000), 1);
    }

    @Sentence(in = "Promise 6", says = "Returns how many ranges there are then;")
    void promise06ReturnsHowManyRanges() {
        RangeDeeds x = withPoorOwners(2);
        due("none", x.free(0, 1), 0);
        x.give(0, 0, 30);
        due("at its first meter", x.free(0, 1), 1);
        due("at its last meter", x.free(29, 1), 1);
        due("in the middle", x.free(15, 1), 2);
        due("in the middle again", x.free(10, 1), 3);
        due("a whole one", x.free(11, 4), 2);
    }

    @Sentence(in = "Promise 6", says = "BAD_VALUE if first or length is out of range;")
    void promise06FirstOutOfRange() {
        RangeDeeds x = withPoorOwners(1);
        x.give(0, 0, 10000);
        changesNothing(x, () -> {
            due("free(-1, 1)", x.free(-1, 1), BAD_VALUE);
            due("free(-1, 10000)", x.free(-1, 10000), BAD_VALUE);
            due("free(10000, 1)", x.free(10000, 1), BAD_VALUE);
            due("free(least, 1)", x.free(LEAST, 1), BAD_VALUE);
            due("free(greatest, 1)", x.free(GREATEST, 1), BAD_VALUE);
        });
    }

    @Sentence(in = "Promise 6", says = "BAD_VALUE if first or length is out of range;")
    void promise06LengthOutOfRange() {
        RangeDeeds x = withPoorOwners(1);
        x.give(0, 0, 10000);
        changesNothing(x, () -> {
            due("free(0, 0)", x.free(0, 0), BAD_VALUE);
            due("free(5, -1)", x.free(5, -1), BAD_VALUE);
            due("free(0, 10001)", x.free(0, 10001), BAD_VALUE);
            due("free(0, least)", x.free(0, LEAST), BAD_VALUE);
        });
    }

    @Sentence(in = "Promise 6", says = "BAD_VALUE if first or length is out of range;")
    void promise06FirstAndLengthBeyondTheInts() {
        RangeDeeds x = withPoorOwners(1);
        x.give(0, 0, 10000);
        changesNothing(x, () -> {
            due("free(1, greatest)", x.free(1, GREATEST), BAD_VALUE);
            due("free(9999, greatest)", x.free(9999, GREATEST), BAD_VALUE);
            due("free(greatest, greatest)", x.free(GREATEST, GREATEST), BAD_VALUE);
            due("free(least, least)", x.free(LEAST, LEAST), BAD_VALUE);
        });
    }

    @Sentence(in = "Promise 6", says = "TOO_MANY (ranges).")
    void promise06TooManyRanges() {
        RangeDeeds x = withRanges(40);
        changesNothing(x, () -> {
            due("41 ranges", x.free(1, 1), TOO_MANY);
            due("41 ranges", x.free(391, 1), TOO_MANY);
        });
        due("BAD_VALUE comes before", x.free(1, 0), BAD_VALUE);
        due("40 ranges, one is shorter", x.free(2, 1), 40);
        due("40 ranges, a hole in a hole", x.free(5, 1), 40);
        due("39 ranges", x.free(10, 3), 39);
        due("40 ranges", x.free(21, 1), 40);
    }

    // ---- grab

    @Sentence(in = "Promise 7", says = "Gives the first part of a hole to an owner: of the first hole along the street"
        + " that is long enough.")
    void promise07FirstHoleThatIsLongEnough() {
        RangeDeeds x = withPoorOwners(2);
        x.give(0, 3, 7);
        x.give(0, 15, 5);
        x.give(0, 30, 10);
        due("a hole that is longer by one", x.grab(1, 9), 20);
        rangeDue(x, 2, 1, 20, 9);
        due("a hole of just this length", x.grab(1, 5), 10);
        rangeDue(x, 1, 1, 10, 5);
        due("a hole that is too short by one", x.grab(1, 4), 40);
        due("the first hole", x.grab(1, 3), 0);
        due("the last of a hole", x.grab(1, 1), 29);
        due("count(2)", x.count(2), 7);
    }

    @Sentence(in = "Promise 7", says = "of the first hole along the street that is long enough.")
    void promise07NeitherTheShortestNorTheLongestHole() {
        RangeDeeds x = withPoorOwners(1);
        x.give(0, 7, 3);
        x.give(0, 15, 5);
        due("7 meters, then 5, then the rest", x.grab(0, 5), 0);
        due("2 meters, then 5, then the rest", x.grab(0, 3), 10);
        due("2 meters, then 2, then the rest", x.grab(0, 1), 5);
    }

    @Sentence(in = "Promise 7", says = "This is a change.")
    void promise07IsAChange() {
        RangeDeeds x = withPoorOwners(1);
        isOneChange(x, () -> due("grab(0, 5)", x.grab(0, 5), 0));
        x.grab(0, 5);
        isOneChange(x, () -> due("grab(0, 9995)", x.grab(0, 9995), 5));
    }

    @Sentence(in = "Promise 7", says = "- `length`: 1 to 10000")
    void promise07LengthFrom1To10000() {
        RangeDeeds x = withPoorOwners(1);
        due("grab(0, 1)", x.grab(0, 1), 0);
        x.undo();
        due("grab(0, 10000)", x.grab(0, 10000), 0);
        rangeDue(x, 0, 0, 0, 10000);
    }

    @Sentence(in = "Promise 7", says = "Returns the first meter;")
    void promise07ReturnsTheFirstMeter() {
        RangeDeeds x = withPoorOwners(2);
        due("the first meter of the street", x.grab(0, 9), 0);
        due("joined with its own", x.grab(0, 9), 9);
        due("of another owner", x.grab(1, 9), 18);
        due("to the end", x.grab(1, 9973), 27);
        x.free(9999, 1);
        due("the last meter", x.grab(0, 1), 9999);
    }

    @Sentence(in = "Promise 7", says = "NO_SUCH if there is no such owner;")
    void promise07NoSuchOwner() {
        RangeDeeds x = withPoorOwners(2);
        changesNothing(x, () -> {
            due("grab(2, 1)", x.grab(2, 1), NO_SUCH);
            due("grab(-1, 1)", x.grab(-1, 1), NO_SUCH);
            due("grab(least, 1)", x.grab(LEAST, 1), NO_SUCH);
            due("grab(greatest, 1)", x.grab(GREATEST, 1), NO_SUCH);
        });
    }

    @Sentence(in = "Promise 7", says = "BAD_VALUE if length is out of range;")
    void promise07LengthOutOfRange() {
        RangeDeeds x = withPoorOwners(1);
        changesNothing(x, () -> {
            due("grab(0, 0)", x.grab(0, 0), BAD_VALUE);
            due("grab(0, -1)", x.grab(0, -1), BAD_VALUE);
            due("grab(0, 10001)", x.grab(0, 10001), BAD_VALUE);
            due("grab(0, least)", x.grab(0, LEAST), BAD_VALUE);
            due("grab(0, greatest)", x.grab(0, GREATEST), BAD_VALUE);
        });
    }

    @Sentence(in = "Promise 7", says = "TOO_MANY (ranges);")
    void promise07TooManyRanges() {
        RangeDeeds x = withRanges(40);
        changesNothing(x, () -> {
            due("41 ranges, beside another owner's", x.grab(1, 3), TOO_MANY);
            due("41 ranges, the whole hole", x.grab(1, 7), TOO_MANY);
            due("41 ranges, behind all", x.grab(2, 9000), TOO_MANY);
        });
        due("40 ranges, joined", x.grab(0, 6), 3);
        due("39 ranges, joined on both sides", x.grab(0, 1), 9);
        due("count(2)", x.count(2), 39);
        due("40 ranges", x.grab(1, 7), 13);
    }

    @Sentence(in = "Promise 7", says = "NOT_POSSIBLE if no hole is long enough,")
    void promise07NoHoleIsLongEnough() {
        RangeDeeds x = withPoorOwners(1);
        x.give(0, 0, 5000);
        x.give(0, 5010, 4990);
        changesNothing(x, () -> {
            due("11 meters", x.grab(0, 11), NOT_POSSIBLE);
            due("10000 meters", x.grab(0, 10000), NOT_POSSIBLE);
        });
        due("10 meters", x.grab(0, 10), 5000);
        changesNothing(x, () -> due("no hole at all", x.grab(0, 1), NOT_POSSIBLE));
    }

    @Sentence(in = "Promise 7", says = "or by MOST.")
    void promise07Most() {
        RangeDeeds x = withPoorOwners(2);
        x.set(MOST, 20);
        changesNothing(x, () -> due("21 meters", x.grab(0, 21), NOT_POSSIBLE));
        due("20 meters", x.grab(0, 20), 0);
        changesNothing(x, () -> due("one meter more", x.grab(0, 1), NOT_POSSIBLE));
        due("of another owner", x.grab(1, 20), 20);
        x.set(MOST, 10);
        changesNothing(x, () -> due("above MOST already", x.grab(0, 1), NOT_POSSIBLE));
    }

    @Sentence(in = "Promise 7", says = "NO_SUCH if there is no such owner; BAD_VALUE if length is out of range;"
        + " TOO_MANY (ranges); NOT_POSSIBLE")
    void promise07ErrorsInTheirOrder() {
        RangeDeeds x = withRanges(40);
        x.set(MOST, 2);
        due("NO_SUCH comes first", x.grab(3, 0), NO_SUCH);
        due("BAD_VALUE comes next", x.grab(1, 10001), BAD_VALUE);
        due("TOO_MANY comes next", x.grab(1, 3), TOO_MANY);
        due("NOT_POSSIBLE comes last", x.grab(0, 1), NOT_POSSIBLE);
        due("no hole is long enough", x.grab(1, 9999), NOT_POSSIBLE);
    }

    // ---- inherit

    @Sentence(in = "Promise 8", says = "Gives all ranges of an owner to another one.")
    void promise08GivesAllRanges() {
        RangeDeeds x = withOwners(100, 200, 300);
        x.give(0, 0, 5);
        x.give(1, 5, 5);
        x.give(0, 10, 5);
        x.give(2, 15, 5);
        x.give(0, 30, 5);
        x.inherit(0, 1);
        due("count(2)", x.count(2), 3);
        rangeDue(x, 0, 1, 0, 15);
        rangeDue(x, 1, 2, 15, 5);
        rangeDue(x, 2, 1, 30, 5);
        due("ofOwner(0, 0)", x.ofOwner(0, 0), 0);
        due("money(0)", x.money(0), 100);
        due("money(1)", x.money(1), 200);
        due("count(1)", x.count(1), 3);
    }

    @Sentence(in = "Promise 8", says = "Gives all ranges of an owner to another one.")
    void promise08GivesNoRangesThatWereThere() {
        RangeDeeds x = withPoorOwners(3);
        x.give(0, 0, 5);
        x.give(0, 10, 5);
        x.give(0, 20, 5);
        x.free(20, 5);
        due("inherit(0, 1)", x.inherit(0, 1), 10);
        due("count(2)", x.count(2), 2);
        due("ownerAt(20)", x.ownerAt(20), NONE);
        x.free(10, 5);
        due("inherit(1, 2)", x.inherit(1, 2), 5);
        due("count(2)", x.count(2), 1);
        due("count(3)", x.count(3), 5);
    }

    @Sentence(in = "Promise 8", says = "This is a change.")
    void promise08IsAChange() {
        RangeDeeds x = withPoorOwners(2);
        isOneChange(x, () -> due("nothing to inherit", x.inherit(0, 1), 0));
        x.give(0, 0, 5);
        x.give(1, 5, 5);
        isOneChange(x, () -> due("inherit(0, 1)", x.inherit(0, 1), 5));
    }

    @Sentence(in = "Promise 8", says = "Returns how many meters;")
    void promise08ReturnsHowManyMeters() {
        RangeDeeds x = withPoorOwners(2);
        due("no meters", x.inherit(0, 1), 0);
        x.give(0, 0, 1);
        x.give(0, 9999, 1);
        x.give(1, 5, 90);
        due("only those of the owner", x.inherit(0, 1), 2);
        due("nothing is left", x.inherit(0, 1), 0);
        x.give(1, 0, 10000);
        due("the whole street", x.inherit(1, 0), 10000);
        rangeDue(x, 0, 0, 0, 10000);
    }

    @Sentence(in = "Promise 8", says = "NO_SUCH if there is no such owner,")
    void promise08NoSuchOwner() {
        RangeDeeds x = withPoorOwners(2);
        x.give(0, 0, 5);
        changesNothing(x, () -> {
            due("inherit(2, 0)", x.inherit(2, 0), NO_SUCH);
            due("inherit(0, 2)", x.inherit(0, 2), NO_SUCH);
            due("inherit(-1, 0)", x.inherit(-1, 0), NO_SUCH);
            due("inherit(0, -1)", x.inherit(0, -1), NO_SUCH);
            due("inherit(-6, 0)", x.inherit(-6, 0), NO_SUCH);
            due("inherit(0, -6)", x.inherit(0, -6), NO_SUCH);
            due("inherit(greatest, least)", x.inherit(GREATEST, LEAST), NO_SUCH);
        });
    }

    @Sentence(in = "Promise 8", says = "or both are the same;")
    void promise08BothAreTheSame() {
        RangeDeeds x = withPoorOwners(2);
        x.give(1, 0, 5);
        changesNothing(x, () -> {
            due("inherit(1, 1)", x.inherit(1, 1), NO_SUCH);
            due("inherit(0, 0)", x.inherit(0, 0), NO_SUCH);
            due("inherit(2, 2)", x.inherit(2, 2), NO_SUCH);
        });
    }

    @Sentence(in = "Promise 8", says = "NOT_POSSIBLE (MOST).")
    void promise08Most() {
        RangeDeeds x = withPoorOwners(3);
        x.give(0, 0, 10);
        x.give(1, 20, 11);
        x.set(MOST, 20);
        changesNothing(x, () -> {
            due("21 meters", x.inherit(0, 1), NOT_POSSIBLE);
            due("21 meters", x.inherit(1, 0), NOT_POSSIBLE);
        });
        due("both the same comes before", x.inherit(1, 1), NO_SUCH);
        x.free(20, 1);
        due("20 meters", x.inherit(0, 1), 10);
        x.set(MOST, 19);
        changesNothing(x, () -> due("20 meters to one who has none", x.inherit(1, 2), NOT_POSSIBLE));
        due("no meters to one who is above MOST", x.inherit(0, 1), 0);
    }
}
