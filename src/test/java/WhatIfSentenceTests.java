/** A test for each sentence of promises 21 to 26. */
public final class WhatIfSentenceTests extends SentenceTest {
    public static void main(String[] args) throws Exception {
        new WhatIfSentenceTests().runAll("Promise 21", "Promise 22", "Promise 23", "Promise 24", "Promise 25",
            "Promise 26");
    }

    /** Holes of 5, 9, 3, 9, 3 and 5 meters, at 0, 6, 16, 20, 30 and 34. */
    private static RangeDeeds withHoles() {
        RangeDeeds x = withPoorOwners(1);
        int[] borders = {5, 15, 19, 29, 33};
        for (int border : borders) {
            x.give(0, border, 1);
        }
        x.give(0, 39, 9961);
        return x;
    }

    // ---- hole

    @Sentence(in = "Promise 21", says = "Finds a hole that is long enough.")
    void promise21LongEnough() {
        RangeDeeds x = withHoles();
        changesNothing(x, () -> {
            due("hole(5, 0), just long enough", x.hole(5, 0), 0);
            due("hole(6, 0), the first is too short by one", x.hole(6, 0), 6);
            due("hole(9, 0), just long enough", x.hole(9, 0), 6);
        });
    }

    @Sentence(in = "Promise 21", says = "- `length`: 1 to 10000")
    void promise21LengthFrom1To10000() {
        RangeDeeds x = withPoorOwners(1);
        for (int how = 0; how < 3; how++) {
            due("hole(1, " + how + ")", x.hole(1, how), 0);
            due("hole(10000, " + how + ")", x.hole(10000, how), 0);
        }
        x.give(0, 0, 9999);
        for (int how = 0; how < 3; how++) {
            due("a hole of one meter, hole(1, " + how + ")", x.hole(1, how), 9999);
            due("a hole of one meter, hole(2, " + how + ")", x.hole(2, how), NONE);
        }
    }

    @Sentence(in = "Promise 21", says = "- `how`: 0 the first one along the street,")
    void promise21TheFirstOne() {
        RangeDeeds x = withHoles();
        due("hole(1, 0)", x.hole(1, 0), 0);
        x.give(0, 0, 5);
        due("hole(1, 0), behind the first range", x.hole(1, 0), 6);
        due("hole(3, 0), not the shortest", x.hole(3, 0), 6);
        x.give(0, 6, 9);
        due("hole(4, 0), not one that is too short", x.hole(4, 0), 20);
    }

    @Sentence(in = "Promise 21", says = "1 the shortest one (of several the first one),")
    void promise21TheShortestOne() {
        RangeDeeds x = withHoles();
        due("hole(1, 1), of two the first", x.hole(1, 1), 16);
        due("hole(3, 1), just long enough", x.hole(3, 1), 16);
        due("hole(4, 1), of those that are long enough", x.hole(4, 1), 0);
        due("hole(5, 1), of two at both ends the first", x.hole(5, 1), 0);
        due("hole(6, 1), of two the first", x.hole(6, 1), 6);
        x.give(0, 6, 1);
        due("hole(6, 1), shorter by one", x.hole(6, 1), 7);
        due("hole(9, 1)", x.hole(9, 1), 20);
        x.give(0, 38, 1);
        due("hole(4, 1), the last one is the shortest", x.hole(4, 1), 34);
    }

    @Sentence(in = "Promise 21", says = "2 the longest one (of several the first one)")
    void promise21TheLongestOne() {
        RangeDeeds x = withHoles();
        due("hole(1, 2), of two the first", x.hole(1, 2), 6);
        due("hole(9, 2), just long enough", x.hole(9, 2), 6);
        x.give(0, 6, 1);
        due("hole(1, 2), longer by one", x.hole(1, 2), 20);
        x.free(39, 6);
        due("hole(1, 2), the last one is the longest", x.hole(1, 2), 34);
        due("hole(11, 2)", x.hole(11, 2), 34);
    }

    @Sentence(in = "Promise 21", says = "Returns its first meter;")
    void promise21ReturnsItsFirstMeter() {
        RangeDeeds x = withPoorOwners(1);
        x.give(0, 0, 9990);
        due("at the end of the street", x.hole(10, 0), 9990);
        x.free(3, 20);
        x.free(10, 20);
        due("two that are one", x.hole(27, 0), 3);
        x.free(0, 3);
        due("at the beginning of the street", x.hole(30, 1), 0);
    }

    @Sentence(in = "Promise 21", says = "BAD_VALUE if length or how is out of range;")
    void promise21LengthOutOfRange() {
        RangeDeeds x = withPoorOwners(1);
        due("hole(0, 0)", x.hole(0, 0), BAD_VALUE);
        due("hole(-1, 0)", x.hole(-1, 0), BAD_VALUE);
        due("hole(10001, 0)", x.hole(10001, 0), BAD_VALUE);
        due("hole(least, 1)", x.hole(LEAST, 1), BAD_VALUE);
        due("hole(greatest, 2)", x.hole(GREATEST, 2), BAD_VALUE);
    }

    @Sentence(in = "Promise 21", says = "BAD_VALUE if length or how is out of range;")
    void promise21HowOutOfRange() {
        RangeDeeds x = withPoorOwners(1);
        due("hole(1, -1)", x.hole(1, -1), BAD_VALUE);
        due("hole(1, 3)", x.hole(1, 3), BAD_VALUE);
        due("hole(1, least)", x.hole(1, LEAST), BAD_VALUE);
        due("hole(1, greatest)", x.hole(1, GREATEST), BAD_VALUE);
        x.give(0, 0, 10000);
        due("no hole, hole(1, 3)", x.hole(1, 3), BAD_VALUE);
        due("no hole, hole(10001, 0)", x.hole(10001, 0), BAD_VALUE);
    }

    @Sentence(in = "Promise 21", says = "NONE if there is none.")
    void promise21None() {
        RangeDeeds x = withHoles();
        for (int how = 0; how < 3; how++) {
            due("hole(10, " + how + ")", x.hole(10, how), NONE);
            due("hole(10000, " + how + ")", x.hole(10000, how), NONE);
        }
        x.give(0, 0, 10000);
        for (int how = 0; how < 3; how++) {
            due("no hole at all, hole(1, " + how + ")", x.hole(1, how), NONE);
        }
    }

    // ---- wouldBe

    @Sentence(in = "Promise 22", says = "Tells how many ranges there would be if a piece was given to an owner")
    void promise22RangesThereWouldBe() {
        RangeDeeds x = withPoorOwners(2);
        due("the first", x.wouldBe(0, 100, 10), 1);
        x.give(0, 100, 10);
        changesNothing(x, () -> {
            due("a meter apart", x.wouldBe(0, 111, 1), 2);
            due("joined behind", x.wouldBe(0, 110, 1), 1);
            due("joined before", x.wouldBe(0, 99, 1), 1);
            due("its own", x.wouldBe(0, 105, 2), 1);
            due("in the middle", x.wouldBe(1, 105, 2), 3);
            due("at the first meter", x.wouldBe(1, 100, 1), 2);
            due("at the last meter", x.wouldBe(1, 109, 1), 2);
            due("all of it", x.wouldBe(1, 100, 10), 1);
        });
        due("MOST is no matter", x.set(MOST, 1), 10000);
        due("the whole street", x.wouldBe(1, 0, 10000), 1);
    }

    @Sentence(in = "Promise 22", says = "(also if there would be more than 40).")
    void promise22MoreThan40() {
        RangeDeeds x = withRanges(40);
        changesNothing(x, () -> {
            due("40", x.wouldBe(0, 3, 1), 40);
            due("41", x.wouldBe(0, 5, 1), 41);
            due("42", x.wouldBe(1, 1, 1), 42);
            due("42, in the last range", x.wouldBe(1, 391, 1), 42);
            due("39", x.wouldBe(0, 3, 7), 39);
            due("1", x.wouldBe(0, 0, 393), 1);
        });
    }

    @Sentence(in = "Promise 22", says = {"Returns the ranges;", "NO_SUCH if there is no such owner;"})
    void promise22NoSuchOwner() {
        RangeDeeds x = withPoorOwners(2);
        due("wouldBe(1, 0, 1)", x.wouldBe(1, 0, 1), 1);
        due("wouldBe(2, 0, 1)", x.wouldBe(2, 0, 1), NO_SUCH);
        due("wouldBe(-1, 0, 1)", x.wouldBe(-1, 0, 1), NO_SUCH);
        due("wouldBe(-6, 0, 1)", x.wouldBe(-6, 0, 1), NO_SUCH);
        due("wouldBe(least, 0, 1)", x.wouldBe(LEAST, 0, 1), NO_SUCH);
        due("wouldBe(greatest, 0, 1)", x.wouldBe(GREATEST, 0, 1), NO_SUCH);
    }

    @Sentence(in = "Promise 22", says = "BAD_VALUE if first or length is out of range")
    void promise22FirstOrLengthOutOfRange() {
        RangeDeeds x = withPoorOwners(1);
        due("first -1", x.wouldBe(0, -1, 1), BAD_VALUE);
        due("first 10000", x.wouldBe(0, 10000, 1), BAD_VALUE);
        due("first least", x.wouldBe(0, LEAST, 1), BAD_VALUE);
        due("length 0", x.wouldBe(0, 0, 0), BAD_VALUE);
        due("length -1", x.wouldBe(0, 5, -1), BAD_VALUE);
        due("length 10001", x.wouldBe(0, 0, 10001), BAD_VALUE);
        due("length greatest", x.wouldBe(0, 1, GREATEST), BAD_VALUE);
        due("both greatest", x.wouldBe(0, GREATEST, GREATEST), BAD_VALUE);
        due("both least", x.wouldBe(0, LEAST, LEAST), BAD_VALUE);
        due("NO_SUCH comes before", x.wouldBe(1, -1, 0), NO_SUCH);
    }

    @Sentence(in = "Promise 22", says = "(as for give()).")
    void promise22AsForGive() {
        RangeDeeds x = withPoorOwners(1);
        due("first 0, length 1", x.wouldBe(0, 0, 1), 1);
        due("first 9999, length 1", x.wouldBe(0, 9999, 1), 1);
        due("first 0, length 10000", x.wouldBe(0, 0, 10000), 1);
        due("ends at 9999", x.wouldBe(0, 5000, 5000), 1);
        due("ends at 10000", x.wouldBe(0, 5000, 5001), BAD_VALUE);
        due("ends at 10000", x.wouldBe(0, 9999, 2), BAD_VALUE);
    }

    // ---- quietest

    @Sentence(in = "Promise 23", says = "Finds the piece of a length that the fewest owners have together: the piece"
        + " with the fewest different owners")
    void promise23FewestDifferentOwners() {
        RangeDeeds x = withPoorOwners(4);
        x.give(0, 0, 2500);
        x.give(1, 2500, 2500);
        x.give(0, 5000, 2500);
        x.give(2, 7500, 2000);
        x.give(3, 9500, 500);
        changesNothing(x, () -> {
            due("one owner", x.quietest(2500, 1), 1);
            due("one owner twice, and another", x.quietest(7500, 1), 2);
            due("from the first meter", x.quietest(7500, 0), 0);
            due("a meter more", x.quietest(7501, 1), 3);
            due("three owners", x.quietest(9500, 1), 3);
            due("a meter more", x.quietest(9501, 1), 4);
        });
    }

    @Sentence(in = "Promise 23", says = "(none counts as no owner),")
    void promise23NoneCountsAsNoOwner() {
        RangeDeeds x = withPoorOwners(2);
        due("nobody", x.quietest(10000, 1), 0);
        x.give(0, 0, 100);
        x.give(1, 110, 9890);
        due("a hole", x.quietest(10, 1), 0);
        due("a hole", x.quietest(10, 0), 100);
        due("a hole and one owner", x.quietest(11, 1), 1);
        due("an owner alone is as few", x.quietest(11, 0), 0);
        due("one owner and a hole", x.quietest(110, 0), 0);
        due("a hole and one owner", x.quietest(111, 0), 100);
        due("two owners and a hole", x.quietest(9901, 1), 2);
    }

    @Sentence(in = "Promise 23", says = "(none counts as no owner),")
    void promise23AnOwnerWhoWasThereDoesNotCount() {
        RangeDeeds x = withPoorOwners(2);
        x.give(0, 0, 100);
        x.give(1, 200, 100);
        due("two owners", x.quietest(10000, 1), 2);
        x.free(200, 100);
        due("one owner", x.quietest(10000, 1), 1);
        due("behind the only one", x.quietest(9900, 0), 100);
        x.free(0, 100);
        due("no owner", x.quietest(10000, 1), 0);
        due("from the first meter on", x.quietest(1, 0), 0);
    }

    @Sentence(in = "Promise 23", says = "of several the first one.")
    void promise23OfSeveralTheFirst() {
        RangeDeeds x = withPoorOwners(3);
        x.give(0, 0, 10);
        x.give(1, 10, 10);
        x.give(2, 20, 10);
        due("a hole of 9970 meters, its first piece", x.quietest(5, 0), 30);
        x.give(0, 30, 9970);
        due("one owner each", x.quietest(10, 0), 0);
        due("one owner at the end", x.quietest(11, 0), 30);
        x.give(0, 0, 10000);
        x.give(1, 3, 1);
        x.give(2, 8, 1);
        due("three meters of one owner", x.quietest(3, 0), 0);
        due("four meters of one owner", x.quietest(4, 0), 4);
        due("five meters of one owner", x.quietest(5, 0), 9);
    }

    @Sentence(in = "Promise 23", says = "- `length`: 1 to 10000")
    void promise23LengthFrom1To10000() {
        RangeDeeds x = withPoorOwners(2);
        x.give(0, 0, 9999);
        due("quietest(1, 0), the last meter", x.quietest(1, 0), 9999);
        due("quietest(1, 1)", x.quietest(1, 1), 0);
        due("quietest(2, 0)", x.quietest(2, 0), 0);
        x.give(1, 9999, 1);
        due("quietest(9999, 0)", x.quietest(9999, 0), 0);
        due("quietest(9999, 1)", x.quietest(9999, 1), 1);
        due("quietest(10000, 0)", x.quietest(10000, 0), 0);
        due("quietest(10000, 1)", x.quietest(10000, 1), 2);
        x.give(0, 0, 10000);
        x.give(1, 0, 1);
        due("quietest(9999, 0), the last piece", x.quietest(9999, 0), 1);
    }

    @Sentence(in = "Promise 23", says = {"- `what`: 0 its first meter, 1 how many owners", "Returns the number;"})
    void promise23AllTenOwners() {
        RangeDeeds x = withPoorOwners(10);
        for (int i = 0; i < 10; i++) {
            x.give(i, 1000 * i, 1000);
        }
        due("quietest(10000, 1)", x.quietest(10000, 1), 10);
        due("quietest(9000, 1)", x.quietest(9000, 1), 9);
        due("quietest(9001, 1)", x.quietest(9001, 1), 10);
        due("quietest(9001, 0)", x.quietest(9001, 0), 0);
        due("quietest(1001, 1)", x.quietest(1001, 1), 2);
    }

    @Sentence(in = "Promise 23", says = "BAD_VALUE if length or what is out of range.")
    void promise23LengthOrWhatOutOfRange() {
        RangeDeeds x = withPoorOwners(1);
        due("quietest(0, 0)", x.quietest(0, 0), BAD_VALUE);
        due("quietest(-1, 0)", x.quietest(-1, 0), BAD_VALUE);
        due("quietest(10001, 0)", x.quietest(10001, 0), BAD_VALUE);
        due("quietest(least, 1)", x.quietest(LEAST, 1), BAD_VALUE);
        due("quietest(greatest, 1)", x.quietest(GREATEST, 1), BAD_VALUE);
        due("quietest(1, -1)", x.quietest(1, -1), BAD_VALUE);
        due("quietest(1, 2)", x.quietest(1, 2), BAD_VALUE);
        due("quietest(1, least)", x.quietest(1, LEAST), BAD_VALUE);
        due("quietest(1, greatest)", x.quietest(1, GREATEST), BAD_VALUE);
    }

    // ---- gaps

    @Sentence(in = "Promise 24", says = "Counts the meters that an owner would have to get to make one range of all"
        + " ranges of this owner: the meters of others, or of none, between the first and the last one.")
    void promise24MetersBetween() {
        RangeDeeds x = withPoorOwners(3);
        x.give(0, 100, 10);
        x.give(0, 111, 10);
        due("one meter of none", x.gaps(0), 1);
        x.give(1, 110, 1);
        due("one meter of another", x.gaps(0), 1);
        x.give(0, 200, 10);
        x.give(2, 121, 9);
        changesNothing(x, () -> due("of others and of none", x.gaps(0), 80));
        x.give(1, 0, 50);
        x.give(1, 9000, 1000);
        due("nothing beyond the first and the last one", x.gaps(0), 80);
        due("of another", x.gaps(1), 60 + 8889);
    }

    @Sentence(in = "Promise 24", says = "between the first and the last one. Returns the meters")
    void promise24AtTheEndsOfTheStreet() {
        RangeDeeds x = withPoorOwners(1);
        x.set(MOST, 2);
        x.give(0, 0, 1);
        x.give(0, 9999, 1);
        due("all but two, though above MOST", x.gaps(0), 9998);
    }

    @Sentence(in = "Promise 24", says = "(0 with fewer than 2 ranges);")
    void promise24FewerThan2Ranges() {
        RangeDeeds x = withPoorOwners(2);
        due("none", x.gaps(0), 0);
        x.give(0, 500, 10);
        due("one", x.gaps(0), 0);
        due("none, when another has one", x.gaps(1), 0);
        x.give(1, 505, 1);
        due("two", x.gaps(0), 1);
        due("one", x.gaps(1), 0);
        x.give(0, 0, 10000);
        due("one again", x.gaps(0), 0);
    }

    @Sentence(in = "Promise 24", says = "NO_SUCH if there is no such owner.")
    void promise24NoSuchOwner() {
        RangeDeeds x = withPoorOwners(2);
        due("gaps(2)", x.gaps(2), NO_SUCH);
        due("gaps(-1)", x.gaps(-1), NO_SUCH);
        due("gaps(-6)", x.gaps(-6), NO_SUCH);
        due("gaps(least)", x.gaps(LEAST), NO_SUCH);
        due("gaps(greatest)", x.gaps(GREATEST), NO_SUCH);
    }

    // ---- exchange

    /** Looks at all three numbers of an exchange. */
    private void exchangeDue(String what, RangeDeeds x, int first, int second, int ranges) {
        due("exchange(0), " + what, x.exchange(0), first);
        due("exchange(1), " + what, x.exchange(1), second);
        due("exchange(2), " + what, x.exchange(2), ranges);
    }

    private void noExchangeDue(String what, RangeDeeds x) {
        exchangeDue(what, x, NONE, NONE, NONE);
    }

    /** Gives each owner of a row the next piece of the street, of the length beside the owner; -1 leaves a hole. */
    private static RangeDeeds withRow(int[]... ownersAndLengths) {
        RangeDeeds x = withPoorOwners(4);
        int first = 0;
        for (int[] piece : ownersAndLengths) {
            if (piece[0] >= 0) {
                x.give(piece[0], first, piece[1]);
            }
            first += piece[1];
        }
        return x;
    }

    @Sentence(in = "Promise 25", says = "Finds two ranges that could be exchanged: both of the same length,")
    void promise25BothOfTheSameLength() {
        exchangeDue("of the same length", withRow(new int[] {0, 9}, new int[] {1, 5}, new int[] {0, 8},
            new int[] {-1, 1}, new int[] {0, 5}), 1, 3, 2);
        noExchangeDue("a meter longer", withRow(new int[] {0, 9}, new int[] {1, 5}, new int[] {0, 8},
            new int[] {-1, 1}, new int[] {0, 6}));
        noExchangeDue("a meter shorter", withRow(new int[] {0, 9}, new int[] {1, 5}, new int[] {0, 8},
            new int[] {-1, 1}, new int[] {0, 4}));
    }

    @Sentence(in = "Promise 25", says = "of two owners,")
    void promise25OfTwoOwners() {
        noExchangeDue("all of one owner", withRow(new int[] {0, 5}, new int[] {-1, 1}, new int[] {0, 5}));
        RangeDeeds x = withRow(new int[] {0, 9}, new int[] {1, 5}, new int[] {0, 8}, new int[] {-1, 1},
            new int[] {1, 5});
        noExchangeDue("both of owner 1", x);
        x.give(2, 23, 5);
        noExchangeDue("of two owners, but none is joined", x);
        x.give(0, 23, 5);
        exchangeDue("of two owners", x, 1, 3, 2);
        x.set(MOST, 1);
        x.set(SHORTEST, 100);
        exchangeDue("MOST and SHORTEST are no matter", x, 1, 3, 2);
    }

    @Sentence(in = "Promise 25", says = "so that there would be the fewest ranges behind it;")
    void promise25FewestRanges() {
        int[][] row = {{0, 9}, {1, 5}, {0, 8}, {-1, 1}, {1, 7}, {0, 5}, {1, 6}};
        exchangeDue("both are joined on both sides", withRow(row), 1, 4, 2);
        int[][] onOneSide = {{0, 9}, {1, 5}, {2, 8}, {-1, 1}, {1, 7}, {0, 5}, {2, 6}};
        exchangeDue("both are joined on one side", withRow(onOneSide), 1, 4, 4);
        int[][] better = {{0, 9}, {1, 5}, {-1, 1}, {0, 5}, {-1, 1}, {1, 3}, {2, 4}, {1, 2}, {-1, 1}, {1, 4}};
        exchangeDue("a later pair leaves fewer", withRow(better), 4, 6, 5);
    }

    @Sentence(in = "Promise 25", says = "so that there would be the fewest ranges behind it;")
    void promise25NeighboursAreExchanged() {
        int[][] row = {{1, 7}, {0, 5}, {1, 5}, {0, 9}};
        exchangeDue("side by side, both are joined beyond", withRow(row), 1, 2, 2);
        int[][] apart = {{1, 7}, {0, 5}, {-1, 1}, {1, 5}, {0, 9}};
        exchangeDue("a hole between them", withRow(apart), 1, 2, 2);
        int[][] alone = {{0, 5}, {1, 5}};
        noExchangeDue("side by side, and nothing beyond", withRow(alone));
    }

    @Sentence(in = "Promise 25", says = "of several pairs the one with the lowest first range, then the lowest second"
        + " range.")
    void promise25OfSeveralPairsTheLowestFirst() {
        int[][] row = {{0, 9}, {1, 5}, {0, 8}, {-1, 1}, {0, 5}, {-1, 1}, {2, 9}, {3, 4}, {2, 8}, {-1, 1}, {2, 4}};
        exchangeDue("two pairs, each leaves two fewer", withRow(row), 1, 3, 6);
        int[][] first = {{0, 5}, {1, 5}, {0, 5}, {-1, 1}, {1, 4}};
        exchangeDue("ranges 0 and 1, or 1 and 2", withRow(first), 0, 1, 3);
    }

    @Sentence(in = "Promise 25", says = "then the lowest second range.")
    void promise25OfSeveralPairsTheLowestSecond() {
        int[][] row = {{0, 9}, {1, 5}, {0, 8}, {-1, 1}, {0, 5}, {-1, 1}, {0, 5}, {-1, 1}, {0, 5}};
        exchangeDue("three pairs", withRow(row), 1, 3, 4);
    }

    @Sentence(in = "Promise 25", says = {"- `what`: 0 the first range, 1 the second range, 2 how many ranges there would"
        + " be then", "Returns the number;"})
    void promise25NumbersOfTheExchange() {
        RangeDeeds x = withRow(new int[] {2, 1}, new int[] {0, 9}, new int[] {1, 5}, new int[] {0, 8},
            new int[] {-1, 1}, new int[] {0, 5});
        changesNothing(x, () -> exchangeDue("behind another range", x, 2, 4, 3));
    }

    @Sentence(in = "Promise 25", says = "BAD_VALUE if what is out of range;")
    void promise25WhatOutOfRange() {
        RangeDeeds x = withRow(new int[] {0, 9}, new int[] {1, 5}, new int[] {0, 8}, new int[] {-1, 1},
            new int[] {0, 5});
        due("exchange(-1)", x.exchange(-1), BAD_VALUE);
        due("exchange(3)", x.exchange(3), BAD_VALUE);
        due("exchange(least)", x.exchange(LEAST), BAD_VALUE);
        due("exchange(greatest)", x.exchange(GREATEST), BAD_VALUE);
        due("exchange(3) without ranges", new RangeDeeds().exchange(3), BAD_VALUE);
    }

    @Sentence(in = "Promise 25", says = "NONE if no exchange makes the ranges fewer.")
    void promise25NoExchangeMakesThemFewer() {
        noExchangeDue("no ranges", new RangeDeeds());
        noExchangeDue("one range", withRow(new int[] {0, 5}));
        noExchangeDue("as many as before", withRow(new int[] {0, 5}, new int[] {1, 5}, new int[] {2, 5}));
        noExchangeDue("a meter between them", withRow(new int[] {0, 9}, new int[] {-1, 1}, new int[] {1, 5},
            new int[] {-1, 1}, new int[] {0, 5}));
    }

    @Sentence(in = "Promise 25", says = "NONE if no exchange makes the ranges fewer.")
    void promise25RangesThatAreNoLongerThere() {
        RangeDeeds x = withRow(new int[] {0, 9}, new int[] {1, 5}, new int[] {0, 8}, new int[] {-1, 1},
            new int[] {0, 5});
        exchangeDue("of four ranges", x, 1, 3, 2);
        x.free(23, 5);
        noExchangeDue("of three ranges", x);
        x.free(0, 9);
        noExchangeDue("of two ranges", x);
    }

    @Sentence(in = "Promise 25", says = "so that there would be the fewest ranges behind it;")
    void promise25NotJoinedWithRangesThatAreNoLongerThere() {
        RangeDeeds x = withRow(new int[] {0, 9}, new int[] {1, 5}, new int[] {-1, 1}, new int[] {0, 5},
            new int[] {1, 3});
        exchangeDue("joined on both sides", x, 1, 2, 2);
        x.free(20, 3);
        exchangeDue("joined before", x, 1, 2, 2);
        x.free(0, 9);
        noExchangeDue("not joined at all", x);
    }

    // ---- losesIn

    @Sentence(in = "Promise 26", says = "Tells after how many days an owner would have lost a range, if nothing else is"
        + " done.")
    void promise26DaysUntilARangeIsLost() {
        RangeDeeds x = withOwners(70, 1000000);
        x.give(0, 0, 10);
        x.give(1, 20, 10);
        changesNothing(x, () -> due("two days can be paid", x.losesIn(0), 3));
        x.days(2);
        due("money(0)", x.money(0), 0);
        due("tomorrow", x.losesIn(0), 1);
        due("it is still there", x.ofOwner(0, 0), 1);
        x.days(1);
        due("it is lost", x.ofOwner(0, 0), 0);
    }

    @Sentence(in = "Promise 26", says = "Tells after how many days an owner would have lost a range,")
    void promise26TheFirstOfSeveralRanges() {
        RangeDeeds x = withOwners(119);
        giveLengths(x, 5, 5);
        due("one cent is missing on the second day", x.losesIn(0), 2);
        x.pay(0, 1);
        due("no cent is missing on the second day", x.losesIn(0), 3);
        x.set(RANGE_TAX, 0);
        due("as the settings are", x.losesIn(0), 13);
    }

    @Sentence(in = "Promise 26", says = "Returns the days, 1 to 300;")
    void promise26From1To300Days() {
        RangeDeeds x = withOwners(0);
        x.set(LENGTH_TAX, 0);
        x.set(RANGE_TAX, 100);
        x.give(0, 0, 10);
        due("no money", x.losesIn(0), 1);
        x.pay(0, 99);
        due("99 cents", x.losesIn(0), 1);
        x.pay(0, 1);
        due("100 cents", x.losesIn(0), 2);
        x.pay(0, 29800);
        due("29900 cents", x.losesIn(0), 300);
        x.pay(0, 99);
        due("29999 cents", x.losesIn(0), 300);
        x.pay(0, 1);
        due("30000 cents", x.losesIn(0), NONE);
    }

    @Sentence(in = "Promise 26", says = "NO_SUCH if there is no such owner;")
    void promise26NoSuchOwner() {
        RangeDeeds x = withPoorOwners(2);
        due("losesIn(2)", x.losesIn(2), NO_SUCH);
        due("losesIn(-1)", x.losesIn(-1), NO_SUCH);
        due("losesIn(least)", x.losesIn(LEAST), NO_SUCH);
        due("losesIn(greatest)", x.losesIn(GREATEST), NO_SUCH);
    }

    @Sentence(in = "Promise 26", says = "NONE if none is lost within 300 days.")
    void promise26NoneIsLost() {
        RangeDeeds x = withOwners(0, 0);
        x.set(LENGTH_TAX, 0);
        x.give(0, 0, 10);
        due("no range", x.losesIn(1), NONE);
        x.set(RANGE_TAX, 0);
        due("no tax, and no money", x.losesIn(0), NONE);
        x.set(RANGE_TAX, 1);
        due("a tax of one cent", x.losesIn(0), 1);
        x.pay(0, 299);
        due("299 cents", x.losesIn(0), 300);
        x.pay(0, 1);
        due("300 cents", x.losesIn(0), NONE);
    }
}
