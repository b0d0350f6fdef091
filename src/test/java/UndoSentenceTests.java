/** A test for each sentence of promises 31 to 33. */
public final class UndoSentenceTests extends SentenceTest {
    /** So many changes are in oneChange(). */
    private static final int CHANGES = 13;

    public static void main(String[] args) throws Exception {
        new UndoSentenceTests().runAll("Promise 31", "Promise 32", "Promise 33");
    }

    /** A street on which each change of oneChange() makes a difference, on day 1; no two of its numbers are alike. */
    private static RangeDeeds withAllThereIs() {
        RangeDeeds x = withOwners(1000, 2000, 30);
        x.save(0);
        x.give(0, 0, 20);
        x.give(1, 20, 21);
        x.give(2, 60, 5);
        x.transfer(0, 1, 0, 10, 4);
        x.close();
        x.days(1);
        x.give(2, 70, 6);
        x.transfer(0, 1, 10, 7, 3);
        putText(x, "d1;gA3");
        return x;
    }

    private static int oneChange(RangeDeeds x, int change) {
        switch (change) {
            case 0: return x.set(MOST, 77);
            case 1: return x.owner(5);
            case 2: return x.pay(1, 5);
            case 3: return x.give(2, 5, 500);
            case 4: return x.free(5, 5);
            case 5: return x.grab(2, 5);
            case 6: return x.inherit(0, 1);
            case 7: return x.transfer(1, 0, 3, 4, 5);
            case 8: return x.drop();
            case 9: return x.close();
            case 10: return x.days(20);
            case 11: return x.carryOut();
            default: return x.restore(0);
        }
    }

    // ---- undo

    @Sentence(in = "Promise 31", says = "Undoes the latest change:")
    void promise31TheLatestChange() {
        RangeDeeds x = new RangeDeeds();
        x.owner(10);
        x.owner(20);
        x.pay(0, 5);
        due("undo()", x.undo(), 2);
        due("the payment is undone", x.money(0), 10);
        due("the owner is not", x.count(1), 2);
        due("undo()", x.undo(), 1);
        due("the second owner is undone", x.count(1), 1);
        x.pay(0, 7);
        due("undo()", x.undo(), 1);
        due("what came then is undone", x.money(0), 10);
    }

    @Sentence(in = "Promise 31", says = "everything except the pad, the slots and the history is as it was before it.")
    void promise31EverythingIsAsItWas() {
        for (int change = 0; change < CHANGES; change++) {
            RangeDeeds x = withAllThereIs();
            int number = change;
            isOneChange(x, () -> due("change " + number + " is no error", Math.min(oneChange(x, number), 0), 0));
        }
    }

    @Sentence(in = "Promise 31", says = "except the pad,")
    void promise31NotThePad() {
        RangeDeeds x = withText("d1");
        x.days(1);
        x.put(';');
        due("undo()", x.undo(), 3);
        due("the pad has 3 characters", x.count(10), 3);
        x.put(signs("d2"));
        due("carryOut()", x.carryOut(), 2);
        due("undo() of it", x.undo(), 3);
        due("the pad is empty all the same", x.count(10), 0);
        x.days(1);
        x.wipe();
        due("undo()", x.undo(), 3);
        due("count(0)", x.count(0), 0);
    }

    @Sentence(in = "Promise 31", says = "the slots")
    void promise31NotTheSlots() {
        RangeDeeds x = withOwners(10);
        x.days(2);
        x.save(0);
        x.days(3);
        x.save(1);
        due("undo()", x.undo(), 2);
        due("undo()", x.undo(), 1);
        due("undo()", x.undo(), 0);
        due("the first slot", x.restore(0), 2);
        due("the second slot", x.restore(1), 5);
        due("money(0)", x.money(0), 10);
    }

    @Sentence(in = "Promise 31", says = "and the history is as it was before it.")
    void promise31UndoIsNoChange() {
        RangeDeeds x = withOwners(10, 20, 30);
        due("undo()", x.undo(), 2);
        due("it cannot be undone itself", x.undo(), 1);
        due("count(1)", x.count(1), 1);
        due("undo()", x.undo(), 0);
        due("undo()", x.undo(), NOT_POSSIBLE);
    }

    @Sentence(in = "Promise 31", says = "A history of at most 6 states is kept:")
    void promise31AtMost6States() {
        RangeDeeds x = new RangeDeeds();
        for (int i = 1; i <= 6; i++) {
            x.days(i);
            due("count(11)", x.count(11), i);
        }
        x.days(7);
        due("count(11)", x.count(11), 6);
        int[] days = {21, 15, 10, 6, 3, 1};
        for (int i = 0; i < 6; i++) {
            due("undo()", x.undo(), 5 - i);
            due("count(0)", x.count(0), days[i]);
        }
        changesNothing(x, () -> due("a seventh undo()", x.undo(), NOT_POSSIBLE));
    }

    @Sentence(in = "Promise 31", says = "each method that is a change, and returns no error, records the state before it")
    void promise31EachChangeIsRecorded() {
        for (int change = 0; change < CHANGES; change++) {
            RangeDeeds x = withAllThereIs();
            x.undo();
            x.undo();
            x.transfer(0, 1, 10, 7, 3);
            due("changes so far", x.count(11), 5);
            due("change " + change + " is no error", Math.min(oneChange(x, change), 0), 0);
            due("change " + change + " is recorded", x.count(11), 6);
        }
    }

    @Sentence(in = "Promise 31", says = "and returns no error, records the state before it")
    void promise31RefusedCallsAreNotRecorded() {
        RangeDeeds x = withOwners(10, 20);
        x.set(9, 9);
        x.owner(-1);
        x.pay(7, 7);
        x.give(7, 0, 1);
        x.free(0, 0);
        x.grab(0, 0);
        x.inherit(0, 0);
        x.transfer(0, 0, 0, 1, 0);
        x.drop();
        x.close();
        x.days(0);
        x.carryOut();
        x.restore(0);
        x.restore(2);
        due("count(11)", x.count(11), 2);
        due("undo()", x.undo(), 1);
        due("count(1)", x.count(1), 1);
    }

    @Sentence(in = "Promise 31", says = "each method that is a change,")
    void promise31QuestionsAreNotRecorded() {
        RangeDeeds x = withAllThereIs();
        x.undo();
        x.undo();
        x.failing();
        x.ofRange(0, 0);
        x.ofOwner(0, 3);
        x.money(0);
        x.ownerAt(0);
        x.ofTransfer(0, 0);
        x.count(0);
        x.shareBits(0);
        x.hole(1, 0);
        x.wouldBe(0, 0, 1);
        x.quietest(1, 0);
        x.gaps(0);
        x.exchange(0);
        x.losesIn(0);
        x.put('1');
        x.fault();
        x.wipe();
        x.save(1);
        due("count(11)", x.count(11), 4);
    }

    @Sentence(in = "Promise 31", says = "(also if nothing is different then);")
    void promise31RecordedIfNothingIsDifferent() {
        RangeDeeds x = withOwners(10, 20);
        x.give(0, 0, 10);
        isOneChange(x, () -> due("a setting as it is", x.set(FEE, 5), 5));
        isOneChange(x, () -> due("0 cents", x.pay(0, 0), 1));
        isOneChange(x, () -> due("own meters", x.give(0, 0, 10), 1));
        isOneChange(x, () -> due("a hole in a hole", x.free(50, 10), 1));
        isOneChange(x, () -> due("nothing to inherit", x.inherit(1, 0), 0));
        x.save(0);
        isOneChange(x, () -> due("what there is", x.restore(0), 0));
        x.put('d');
        x.put('0');
        isOneChange(x, () -> due("a text of which nothing is carried out", x.carryOut(), 0));
    }

    @Sentence(in = "Promise 31", says = "when one more is recorded, the oldest one is dropped.")
    void promise31TheOldestIsDropped() {
        for (int more = 0; more < 16; more++) {
            RangeDeeds x = new RangeDeeds();
            for (int i = 0; i < 6 + more; i++) {
                x.days(1);
            }
            for (int i = 5; i >= 0; i--) {
                due("undo()", x.undo(), i);
            }
            due("the oldest state that is kept", x.count(0), more);
            due("none is older", x.undo(), NOT_POSSIBLE);
            x.days(60);
            due("a change behind all", x.undo(), 0);
            due("count(0)", x.count(0), more);
        }
    }

    @Sentence(in = "Promise 31", says = "when one more is recorded, the oldest one is dropped.")
    void promise31ARefusedCallDropsNone() {
        RangeDeeds x = new RangeDeeds();
        for (int i = 0; i < 6; i++) {
            x.owner(i);
        }
        for (int i = 0; i < 10; i++) {
            due("refused", x.owner(-1), BAD_VALUE);
        }
        for (int i = 5; i >= 0; i--) {
            due("undo()", x.undo(), i);
            due("count(1)", x.count(1), i);
        }
    }

    @Sentence(in = "Promise 31", says = "An entry of a text records nothing by itself.")
    void promise31AnEntryRecordsNothing() {
        RangeDeeds x = withText("+A0:5;gB5;pC5;-0:1;d1;d1;d1;d1");
        due("carryOut()", x.carryOut(), 8);
        due("count(11)", x.count(11), 4);
        due("undo()", x.undo(), 3);
        due("all entries are undone", x.count(0), 0);
        due("count(2)", x.count(2), 0);
        due("undo()", x.undo(), 2);
        due("count(1)", x.count(1), 2);
    }

    @Sentence(in = "Promise 31", says = "Returns how many changes can be undone then;")
    void promise31ReturnsHowManyChanges() {
        RangeDeeds x = withOwners(10, 20);
        due("one is left", x.undo(), 1);
        x.pay(0, 1);
        x.pay(0, 1);
        due("two are left", x.undo(), 2);
        due("count(11)", x.count(11), 2);
        for (int i = 0; i < 9; i++) {
            x.pay(0, 1);
        }
        due("five are left", x.undo(), 5);
    }

    @Sentence(in = "Promise 31", says = "NOT_POSSIBLE if there is none.")
    void promise31NoneToUndo() {
        RangeDeeds x = new RangeDeeds();
        changesNothing(x, () -> due("a new object", x.undo(), NOT_POSSIBLE));
        x.owner(5);
        x.undo();
        changesNothing(x, () -> due("the only one is undone", x.undo(), NOT_POSSIBLE));
        x.owner(6);
        due("undo()", x.undo(), 0);
    }

    // ---- save

    @Sentence(in = "Promise 32", says = "Saves everything except the pad, the history and the slots in a slot,")
    void promise32SavesEverything() {
        for (int change = 0; change < CHANGES; change++) {
            RangeDeeds x = withAllThereIs();
            long[] before = picture(x, false);
            due("save(1)", x.save(1), 1);
            oneChange(x, change);
            due("restore(1) behind change " + change, x.restore(1), 1);
            samePicture("what was saved before change " + change, picture(x, false), before);
        }
    }

    @Sentence(in = "Promise 32", says = "except the pad, the history and the slots")
    void promise32NotThePadTheHistoryAndTheSlots() {
        RangeDeeds x = withText("d1");
        x.days(1);
        x.save(0);
        changesNothing(x, () -> x.save(1));
        due("no change", x.count(11), 4);
        x.put(';');
        x.days(1);
        x.save(1);
        due("restore(0)", x.restore(0), 1);
        due("not the pad", x.count(10), 3);
        due("not the history", x.count(11), 6);
        due("not the other slot", x.restore(1), 2);
    }

    @Sentence(in = "Promise 32", says = "and overwrites what was saved there.")
    void promise32OverwritesWhatWasSaved() {
        RangeDeeds x = withOwners(10);
        x.save(0);
        x.give(0, 0, 5);
        x.days(3);
        due("save(0) again", x.save(0), 3);
        x.free(0, 5);
        x.days(1);
        due("restore(0)", x.restore(0), 3);
        x.owner(5);
        x.save(0);
        x.undo();
        due("restore(0)", x.restore(0), 3);
        due("count(1)", x.count(1), 2);
    }

    @Sentence(in = "Promise 32", says = "- `slot`: 0 or 1")
    void promise32SlotIs0Or1() {
        RangeDeeds x = new RangeDeeds();
        due("save(0)", x.save(0), 0);
        x.days(1);
        due("save(1)", x.save(1), 1);
        x.days(1);
        due("restore(0)", x.restore(0), 0);
        due("restore(1)", x.restore(1), 1);
    }

    @Sentence(in = "Promise 32", says = "Returns the present day;")
    void promise32ReturnsThePresentDay() {
        RangeDeeds x = new RangeDeeds();
        due("at first", x.save(0), 0);
        x.days(60);
        due("behind 60 days", x.save(0), 60);
        x.undo();
        due("undone", x.save(0), 0);
    }

    @Sentence(in = "Promise 32", says = "BAD_VALUE if there is no such slot.")
    void promise32NoSuchSlot() {
        RangeDeeds x = withOwners(10);
        changesNothing(x, () -> {
            due("save(-1)", x.save(-1), BAD_VALUE);
            due("save(2)", x.save(2), BAD_VALUE);
            due("save(least)", x.save(LEAST), BAD_VALUE);
            due("save(greatest)", x.save(GREATEST), BAD_VALUE);
        });
        due("nothing was saved", x.restore(0), NOT_POSSIBLE);
        due("nothing was saved", x.restore(1), NOT_POSSIBLE);
    }

    // ---- restore

    @Sentence(in = "Promise 33", says = "Restores what was saved last in a slot,")
    void promise33RestoresWhatWasSavedLast() {
        RangeDeeds x = withAllThereIs();
        long[] before = picture(x, false);
        x.days(1);
        x.save(1);
        x.undo();
        x.save(1);
        for (int change = 0; change < 12; change++) {
            oneChange(x, change);
        }
        due("restore(1)", x.restore(1), 1);
        samePicture("what was saved last", picture(x, false), before);
    }

    @Sentence(in = "Promise 33", says = "which keeps it.")
    void promise33TheSlotKeepsIt() {
        RangeDeeds x = withOwners(100);
        x.give(0, 0, 5);
        x.save(1);
        for (int i = 0; i < 3; i++) {
            x.give(0, 10 * i, 9);
            x.pay(0, 5);
            x.days(1);
            due("restore(1)", x.restore(1), 0);
            rangeDue(x, 0, 0, 0, 5);
            due("money(0)", x.money(0), 100);
        }
    }

    @Sentence(in = "Promise 33", says = "This is a change.")
    void promise33IsAChange() {
        RangeDeeds x = withOwners(10);
        x.save(0);
        x.days(3);
        x.give(0, 0, 5);
        isOneChange(x, () -> due("restore(0)", x.restore(0), 0));
        due("count(0)", x.count(0), 3);
    }

    @Sentence(in = "Promise 33", says = "- `slot`: 0 or 1")
    void promise33SlotIs0Or1() {
        RangeDeeds x = new RangeDeeds();
        x.days(4);
        x.save(1);
        due("the other slot is empty", x.restore(0), NOT_POSSIBLE);
        x.days(1);
        x.save(0);
        due("restore(1)", x.restore(1), 4);
        due("restore(0)", x.restore(0), 5);
    }

    @Sentence(in = "Promise 33", says = "Returns the present day then;")
    void promise33ReturnsThePresentDayThen() {
        RangeDeeds x = new RangeDeeds();
        x.save(0);
        x.days(60);
        due("the day that was saved, not the day that was", x.restore(0), 0);
        due("count(0)", x.count(0), 0);
    }

    @Sentence(in = "Promise 33", says = "BAD_VALUE if there is no such slot;")
    void promise33NoSuchSlot() {
        RangeDeeds x = withOwners(10);
        x.save(0);
        x.save(1);
        changesNothing(x, () -> {
            due("restore(-1)", x.restore(-1), BAD_VALUE);
            due("restore(2)", x.restore(2), BAD_VALUE);
            due("restore(least)", x.restore(LEAST), BAD_VALUE);
            due("restore(greatest)", x.restore(GREATEST), BAD_VALUE);
        });
    }

    @Sentence(in = "Promise 33", says = "NOT_POSSIBLE if nothing was saved in it.")
    void promise33NothingWasSaved() {
        RangeDeeds x = withOwners(10);
        changesNothing(x, () -> {
            due("restore(0)", x.restore(0), NOT_POSSIBLE);
            due("restore(1)", x.restore(1), NOT_POSSIBLE);
        });
        x.save(1);
        changesNothing(x, () -> due("the other slot", x.restore(0), NOT_POSSIBLE));
        due("restore(1)", x.restore(1), 0);
        due("restore(2) comes before", x.restore(2), BAD_VALUE);
    }
}
