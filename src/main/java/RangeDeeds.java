/**
 * A register of who owns which pieces of a long street, with deals, taxes, texts, undo and saved states.
 *
 * <p>All rows are made once and used again, because all calls of a run share one room for what they make.
 */
public final class RangeDeeds {
    public static final int NO_SUCH = -1, BAD_VALUE = -2, BAD_TEXT = -3, TOO_MANY = -4, NOT_POSSIBLE = -5, NONE = -6;
    public static final int LENGTH_TAX = 0, RANGE_TAX = 1, FEE = 2, SHORTEST = 3, MOST = 4;

    private static final int METERS = 10000;
    private static final int MOST_RANGES = 40;
    /** A piece in the middle of a range makes two ranges more, which are counted before they are refused. */
    private static final int ROOM_FOR_RANGES = MOST_RANGES + 2;
    private static final int MOST_OWNERS = 10;
    private static final int MOST_TRANSFERS = 8;
    private static final int MOST_CENTS = 1000000;
    private static final int MOST_DAYS = 60;
    private static final int DAYS_AHEAD = 300;
    private static final int MOST_CHARACTERS = 80;
    /** So many fit into a long. */
    private static final int SIGNS_AT_ONCE = 8;
    private static final int MOST_STATES = 6;
    private static final int SLOTS = 2;

    private static final int SETTINGS = 5;
    private static final int[] LOWEST_SETTING = {0, 0, 0, 1, 1};
    private static final int[] HIGHEST_SETTING = {1000, 1000, 1000, 100, 10000};
    private static final int[] FIRST_SETTING = {10, 25, 5, 1, 10000};

    private static final int FIRST_HOLE = 0, SHORTEST_HOLE = 1, LONGEST_HOLE = 2;

    private static final int FROM = 0, TO = 1, START = 2, LENGTH = 3, PRICE = 4;
    private static final int TRANSFER_NUMBERS = 5;

    private static final int COUNT_SETTINGS = 12;

    private static final int FLOAT_POINT_BITS = 23;
    private static final int FLOAT_EXPONENT_OF_ONE = 127;

    private final Register register = new Register();
    /** Where a deal is tried, so that one that fails leaves nothing behind. */
    private final Register rehearsal = new Register();
    /** Where a street is made anew before it is known whether it may be so. */
    private final Street trial = new Street();
    private final History history = new History();
    /** null where nothing was saved. */
    private final Register[] slots = new Register[SLOTS];
    private final Pad pad = new Pad();

    /** Creates a street without owners. */
    public RangeDeeds() {
    }

    // ---- setting up

    /** Changes a setting, and returns the previous value. */
    public int set(int setting, int value) {
        history.prepare(register);
        return history.finish(changeSetting(setting, value));
    }

    /** Adds an owner, and returns the number. */
    public int owner(int money) {
        history.prepare(register);
        return history.finish(addOwner(money));
    }

    /** An owner pays money in; returns 1 if the money is at least 0 then, otherwise 0. */
    public int pay(int owner, int cents) {
        history.prepare(register);
        return history.finish(payIn(owner, cents));
    }

    // ---- the street

    /** Gives a piece of the street to an owner, and returns how many ranges there are then. */
    public int give(int owner, int first, int length) {
        history.prepare(register);
        return history.finish(givePiece(owner, first, length));
    }

    /** Makes a piece of the street a hole, and returns how many ranges there are then. */
    public int free(int first, int length) {
        history.prepare(register);
        return history.finish(freePiece(first, length));
    }

    /** Gives the first part of the first hole that is long enough to an owner, and returns its first meter. */
    public int grab(int owner, int length) {
        history.prepare(register);
        return history.finish(grabPiece(owner, length));
    }

    /** Gives all ranges of an owner to another one, and returns how many meters. */
    public int inherit(int owner, int heir) {
        history.prepare(register);
        return history.finish(handOver(owner, heir));
    }

    // ---- deals

    /** Adds a transfer to the deal, and returns how many it has then. */
    public int transfer(int from, int to, int first, int length, int price) {
        history.prepare(register);
        return history.finish(addTransfer(from, to, first, length, price));
    }

    /** Drops the last transfer of the deal, and returns how many it has then. */
    public int drop() {
        history.prepare(register);
        return history.finish(dropTransfer());
    }

    /** Closes the deal, and returns how many transfers were done. */
    public int close() {
        history.prepare(register);
        return history.finish(closeDeal());
    }

    /** Returns the place of the first transfer that would fail if the deal was closed now. */
    public int failing() {
        return rehearse();
    }

    /** Lets days pass, and returns the present day then. */
    public int days(int days) {
        history.prepare(register);
        return history.finish(passDays(days));
    }

    // ---- what there is

    /** Returns a number about a range. */
    public int ofRange(int range, int what) {
        if (!register.street.hasRange(range)) {
            return NO_SUCH;
        }
        switch (what) {
            case 0:
                return register.street.holders.at(range);
            case 1:
                return register.street.starts.at(range);
            case 2:
                return register.street.lengths.at(range);
            default:
                return BAD_VALUE;
        }
    }

    /** Returns a number about an owner. */
    public int ofOwner(int owner, int what) {
        if (!register.hasOwner(owner)) {
            return NO_SUCH;
        }
        switch (what) {
            case 0:
                return register.street.rangesHeld.at(owner);
            case 1:
                return register.street.metersHeld.at(owner);
            case 2:
                return register.street.longestOf(owner);
            case 3:
                return register.taxOf(owner);
            case 4:
                return register.taxes.at(owner);
            case 5:
                return register.losses.at(owner);
            default:
                return BAD_VALUE;
        }
    }

    /** Returns the money of an owner. */
    public long money(int owner) {
        return register.hasOwner(owner) ? register.purseOf(owner) : NO_SUCH;
    }

    /** Returns the owner of a meter. */
    public int ownerAt(int meter) {
        return meter < 0 || meter >= METERS ? BAD_VALUE : register.street.holderAt(meter);
    }

    /** Returns a number about a transfer of the deal. */
    public int ofTransfer(int transfer, int what) {
        if (!register.deal.hasTransfer(transfer)) {
            return NO_SUCH;
        }
        return what < 0 || what >= TRANSFER_NUMBERS ? BAD_VALUE : register.deal.about(transfer, what);
    }

    /** Returns a number about all. */
    public int count(int what) {
        switch (what) {
            case 0:
                return register.day;
            case 1:
                return register.owners;
            case 2:
                return register.street.size;
            case 3:
                return register.street.metersOfAll();
            case 4:
                return register.street.holes();
            case 5:
                return register.street.longestHole();
            case 6:
                return register.deal.size;
            case 7:
                return register.dealsClosed;
            case 8:
                return register.feesPaid;
            case 9:
                return register.taxes.sum();
            case 10:
                return pad.size;
            case 11:
                return history.size;
            default:
                return isSetting(what - COUNT_SETTINGS) ? register.settings.at(what - COUNT_SETTINGS) : BAD_VALUE;
        }
    }

    /** Returns the share of an owner in all meters that have an owner, as the bits of a float. */
    public int shareBits(int owner) {
        if (!register.hasOwner(owner)) {
            return NO_SUCH;
        }
        return bitsOfQuotient(register.street.metersHeld.at(owner), register.street.metersOfAll());
    }

    // ---- what if; nothing changes

    /** Returns the first meter of a hole that is long enough. */
    public int hole(int length, int how) {
        if (!isLength(length) || how < FIRST_HOLE || how > LONGEST_HOLE) {
            return BAD_VALUE;
        }
        int gap = register.street.gapFor(length, how);
        return gap == NONE ? NONE : register.street.startOfGap(gap);
    }

    /** Returns how many ranges there would be if a piece was given to an owner. */
    public int wouldBe(int owner, int first, int length) {
        if (!register.hasOwner(owner)) {
            return NO_SUCH;
        }
        if (!isPiece(first, length)) {
            return BAD_VALUE;
        }
        trial.become(register.street, owner, first, length);
        return trial.size;
    }

    /** Returns a number about the first piece of a length that the fewest owners have together. */
    public int quietest(int length, int what) {
        if (!isLength(length) || what < 0 || what > 1) {
            return BAD_VALUE;
        }
        int start = register.street.quietestStart(length);
        return what == 0 ? start : register.street.holdersWithin(start, length);
    }

    /** Returns how many meters an owner has not, between this owner's first range and last one. */
    public int gaps(int owner) {
        return register.hasOwner(owner) ? register.street.metersBetween(owner) : NO_SUCH;
    }

    /** Returns a number about the exchange of two ranges that leaves the fewest ranges. */
    public int exchange(int what) {
        return what < 0 || what > 2 ? BAD_VALUE : register.street.bestExchange(what);
    }

    /** Returns after how many days an owner would have lost a range. */
    public int losesIn(int owner) {
        return register.hasOwner(owner) ? register.daysToLoss(owner) : NO_SUCH;
    }

    // ---- texts

    /** Appends characters to the pad, and returns the length of the pad then. */
    public int put(long characters) {
        int signs = Pad.signsIn(characters);
        if (signs == 0) {
            return BAD_VALUE;
        }
        return pad.append(characters, signs) ? pad.size : TOO_MANY;
    }

    /** Empties the pad, and returns the length that it had. */
    public int wipe() {
        int size = pad.size;
        pad.size = 0;
        return size;
    }

    /** Returns the fault of the pad. */
    public int fault() {
        return pad.findFault();
    }

    /** Carries the entries of the pad out, up to the first error, and returns how many were carried out. */
    public int carryOut() {
        if (pad.findFault() != NONE) {
            return BAD_TEXT;
        }
        history.prepare(register);
        int done = 0;
        pad.place = 0;
        // A pad has fewer entries than characters, so its end, where no entry is read, comes before the bound.
        while (done < MOST_CHARACTERS && pad.readEntry() && carryEntry() >= 0) {
            done++;
            // Over the semicolon, behind which the next entry begins.
            pad.place++;
        }
        pad.size = 0;
        return history.finish(done);
    }

    // ---- undo, saving

    /** Undoes the latest change, and returns how many can be undone then. */
    public int undo() {
        return history.takeBack(register) ? history.size : NOT_POSSIBLE;
    }

    /** Saves everything except the pad, the history and the slots, and returns the present day. */
    public int save(int slot) {
        if (!isSlot(slot)) {
            return BAD_VALUE;
        }
        Register saved = slots[slot];
        if (saved == null) {
            saved = new Register();
            slots[slot] = saved;
        }
        saved.copy(register);
        return register.day;
    }

    /** Restores what was saved last in a slot, and returns the present day then. */
    public int restore(int slot) {
        history.prepare(register);
        return history.finish(copyBack(slot));
    }

    // ---- what arguments may be

    private static boolean isSetting(int setting) {
        return setting >= 0 && setting < SETTINGS;
    }

    private static boolean isSlot(int slot) {
        return slot >= 0 && slot < SLOTS;
    }

    private static boolean isAmount(int cents) {
        return cents >= 0 && cents <= MOST_CENTS;
    }

    private static boolean isLength(int length) {
        return length >= 1 && length <= METERS;
    }

    private static boolean isPiece(int first, int length) {
        return first >= 0 && first < METERS && isLength(length) && first + length <= METERS;
    }

    // ---- changes; none of them records anything, so that entries of a text can use them too

    private int changeSetting(int setting, int value) {
        if (!isSetting(setting) || value < LOWEST_SETTING[setting] || value > HIGHEST_SETTING[setting]) {
            return BAD_VALUE;
        }
        int previous = register.settings.at(setting);
        register.settings.store(setting, value);
        return previous;
    }

    private int addOwner(int money) {
        if (!isAmount(money)) {
            return BAD_VALUE;
        }
        if (register.owners >= MOST_OWNERS) {
            return TOO_MANY;
        }
        int number = register.owners;
        register.owners = number + 1;
        register.earn(number, money);
        return number;
    }

    private int payIn(int owner, int cents) {
        if (!register.hasOwner(owner)) {
            return NO_SUCH;
        }
        if (!isAmount(cents)) {
            return BAD_VALUE;
        }
        register.earn(owner, cents);
        return register.purseOf(owner) >= 0 ? 1 : 0;
    }

    private int givePiece(int owner, int first, int length) {
        if (!register.hasOwner(owner)) {
            return NO_SUCH;
        }
        if (!isPiece(first, length)) {
            return BAD_VALUE;
        }
        trial.become(register.street, owner, first, length);
        if (trial.size > MOST_RANGES) {
            return TOO_MANY;
        }
        if (!register.mayGet(owner, length - register.street.metersWithin(owner, first, length))) {
            return NOT_POSSIBLE;
        }
        register.street.copy(trial);
        return trial.size;
    }

    private int freePiece(int first, int length) {
        if (!isPiece(first, length)) {
            return BAD_VALUE;
        }
        trial.become(register.street, NONE, first, length);
        if (trial.size > MOST_RANGES) {
            return TOO_MANY;
        }
        register.street.copy(trial);
        return trial.size;
    }

    private int grabPiece(int owner, int length) {
        if (!register.hasOwner(owner)) {
            return NO_SUCH;
        }
        if (!isLength(length)) {
            return BAD_VALUE;
        }
        int gap = register.street.gapFor(length, FIRST_HOLE);
        if (gap == NONE) {
            return NOT_POSSIBLE;
        }
        int first = register.street.startOfGap(gap);
        int answer = givePiece(owner, first, length);
        return answer < 0 ? answer : first;
    }

    private int handOver(int owner, int heir) {
        if (!register.hasOwner(owner) || !register.hasOwner(heir) || owner == heir) {
            return NO_SUCH;
        }
        int meters = register.street.metersHeld.at(owner);
        if (!register.mayGet(heir, meters)) {
            return NOT_POSSIBLE;
        }
        trial.becomeInherited(register.street, owner, heir);
        register.street.copy(trial);
        return meters;
    }

    private int addTransfer(int from, int to, int first, int length, int price) {
        if (!register.hasOwner(from) || !register.hasOwner(to) || from == to) {
            return NO_SUCH;
        }
        if (!isPiece(first, length) || !isAmount(price)) {
            return BAD_VALUE;
        }
        if (register.deal.size >= MOST_TRANSFERS) {
            return TOO_MANY;
        }
        register.deal.append(from, to, first, length, price);
        return register.deal.size;
    }

    private int dropTransfer() {
        if (register.deal.size == 0) {
            return NOT_POSSIBLE;
        }
        register.deal.size--;
        return register.deal.size;
    }

    private int closeDeal() {
        int transfers = register.deal.size;
        if (transfers == 0 || rehearse() != NONE) {
            return NOT_POSSIBLE;
        }
        register.copy(rehearsal);
        register.deal.size = 0;
        register.dealsClosed++;
        return transfers;
    }

    /** Returns the first transfer that fails, or NONE: then the rehearsal has all of them done. */
    private int rehearse() {
        rehearsal.copy(register);
        for (int i = 0; i < rehearsal.deal.size; i++) {
            if (!rehearsal.carryTransfer(i, trial)) {
                return i;
            }
        }
        return NONE;
    }

    private int passDays(int days) {
        if (days < 1 || days > MOST_DAYS) {
            return BAD_VALUE;
        }
        for (int i = 0; i < days; i++) {
            register.passDay();
        }
        return register.day;
    }

    private int copyBack(int slot) {
        if (!isSlot(slot)) {
            return BAD_VALUE;
        }
        Register saved = slots[slot];
        if (saved == null) {
            return NOT_POSSIBLE;
        }
        register.copy(saved);
        return register.day;
    }

    private int carryEntry() {
        switch (pad.kind) {
            case '+':
                return givePiece(pad.letter, pad.number, pad.secondNumber);
            case '-':
                return freePiece(pad.number, pad.secondNumber);
            case 'g':
                return grabPiece(pad.letter, pad.number);
            case 'p':
                return payIn(pad.letter, pad.number);
            case 'd':
                return passDays(pad.number);
            default:
                return BAD_TEXT;
        }
    }

    /**
     * Returns the bits of the float nearest to a quotient from 0 to 1, 0 without a divisor. Whole numbers do,
     * because a quotient of numbers up to 10000 never lies halfway between two floats, nor near enough to it
     * for the double in between to matter.
     */
    private static int bitsOfQuotient(int part, int whole) {
        if (part <= 0 || whole <= 0 || part > whole) {
            return 0;
        }
        long scaled = part;
        int exponent = FLOAT_EXPONENT_OF_ONE;
        while (scaled < whole && exponent > 0) {
            scaled *= 2;
            exponent--;
        }
        scaled <<= FLOAT_POINT_BITS;
        long rounded = (2 * scaled + whole) / (2L * whole);
        // A float's first digit is 1 and not written: it is taken off by one step of the exponent.
        return ((exponent - 1) << FLOAT_POINT_BITS) + (int) rounded;
    }

    /** A row of numbers that is neither read nor written beyond its ends. */
    private static final class Row {
        private final int[] cells;

        Row(int size) {
            cells = new int[Math.max(size, 0)];
        }

        int at(int place) {
            return place >= 0 && place < cells.length ? cells[place] : 0;
        }

        void store(int place, int value) {
            if (place >= 0 && place < cells.length) {
                cells[place] = value;
            }
        }

        void add(int place, int value) {
            if (place >= 0 && place < cells.length) {
                cells[place] += value;
            }
        }

        void clear() {
            for (int i = 0; i < cells.length; i++) {
                cells[i] = 0;
            }
        }

        int sum() {
            int sum = 0;
            for (int i = 0; i < cells.length; i++) {
                sum += cells[i];
            }
            return sum;
        }

        void copy(Row other) {
            System.arraycopy(other.cells, 0, cells, 0, Math.min(cells.length, other.cells.length));
        }
    }

    /** The ranges along the street, and for each owner how many there are and how long they are together. */
    private static final class Street {
        private final Row holders = new Row(ROOM_FOR_RANGES);
        private final Row starts = new Row(ROOM_FOR_RANGES);
        private final Row lengths = new Row(ROOM_FOR_RANGES);
        private final Row rangesHeld = new Row(MOST_OWNERS);
        private final Row metersHeld = new Row(MOST_OWNERS);
        private int size;

        void copy(Street other) {
            holders.copy(other.holders);
            starts.copy(other.starts);
            lengths.copy(other.lengths);
            rangesHeld.copy(other.rangesHeld);
            metersHeld.copy(other.metersHeld);
            size = other.size;
        }

        private void clear() {
            rangesHeld.clear();
            metersHeld.clear();
            size = 0;
        }

        boolean hasRange(int range) {
            return range >= 0 && range < size;
        }

        int endOf(int range) {
            return starts.at(range) + lengths.at(range);
        }

        int metersOfAll() {
            return metersHeld.sum();
        }

        /** Adds a piece behind all ranges; one without owner, or without a meter, adds nothing. */
        private void append(int owner, int first, int length) {
            if (owner < 0 || length <= 0) {
                return;
            }
            int last = size - 1;
            if (size > 0 && holders.at(last) == owner && starts.at(last) + lengths.at(last) == first) {
                lengths.add(last, length);
            } else if (size < ROOM_FOR_RANGES) {
                holders.store(size, owner);
                starts.store(size, first);
                lengths.store(size, length);
                rangesHeld.add(owner, 1);
                size++;
            } else {
                return;
            }
            metersHeld.add(owner, length);
        }

        /** Becomes like another street, but for a piece that goes to an owner, or to NONE. */
        void become(Street other, int owner, int first, int length) {
            int end = first + length;
            clear();
            for (int i = 0; i < other.size; i++) {
                append(other.holders.at(i), other.starts.at(i), Math.min(other.endOf(i), first) - other.starts.at(i));
            }
            append(owner, first, length);
            for (int i = 0; i < other.size; i++) {
                int start = Math.max(other.starts.at(i), end);
                append(other.holders.at(i), start, other.endOf(i) - start);
            }
        }

        /** Becomes like another street, but for all ranges of an owner, which go to an heir. */
        void becomeInherited(Street other, int owner, int heir) {
            clear();
            for (int i = 0; i < other.size; i++) {
                int holder = other.holders.at(i);
                append(holder == owner ? heir : holder, other.starts.at(i), other.lengths.at(i));
            }
        }

        /** Makes a range a hole. */
        void remove(int range) {
            if (!hasRange(range)) {
                return;
            }
            rangesHeld.add(holders.at(range), -1);
            metersHeld.add(holders.at(range), -lengths.at(range));
            size--;
            for (int i = range; i < size; i++) {
                holders.store(i, holders.at(i + 1));
                starts.store(i, starts.at(i + 1));
                lengths.store(i, lengths.at(i + 1));
            }
        }

        int holderAt(int meter) {
            for (int i = 0; i < size; i++) {
                if (meter >= starts.at(i) && meter < endOf(i)) {
                    return holders.at(i);
                }
            }
            return NONE;
        }

        /** Returns the length of the longest range of an owner, 0 without ranges. */
        int longestOf(int owner) {
            int longest = 0;
            for (int i = 0; i < size; i++) {
                if (holders.at(i) == owner) {
                    longest = Math.max(longest, lengths.at(i));
                }
            }
            return longest;
        }

        /** Returns the shortest range of an owner, of several the last one, NONE without ranges. */
        int shortestOf(int owner) {
            int shortest = NONE;
            for (int i = 0; i < size; i++) {
                if (holders.at(i) == owner && (shortest == NONE || lengths.at(i) <= lengths.at(shortest))) {
                    shortest = i;
                }
            }
            return shortest;
        }

        /** Tells whether any range of an owner is shorter than a length. */
        boolean hasShorter(int owner, int length) {
            int shortest = shortestOf(owner);
            return shortest != NONE && lengths.at(shortest) < length;
        }

        /** Returns how many meters of a piece a range has. */
        private int overlap(int range, int first, int length) {
            int start = starts.at(range);
            int end = start + lengths.at(range);
            return Math.max(Math.min(end, first + length) - Math.max(start, first), 0);
        }

        int metersWithin(int owner, int first, int length) {
            int meters = 0;
            for (int i = 0; i < size; i++) {
                if (holders.at(i) == owner) {
                    meters += overlap(i, first, length);
                }
            }
            return meters;
        }

        /** Returns how many different owners a piece has. */
        int holdersWithin(int first, int length) {
            int holdersSeen = 0;
            for (int i = 0; i < size; i++) {
                if (overlap(i, first, length) > 0) {
                    holdersSeen |= 1 << holders.at(i);
                }
            }
            return Integer.bitCount(holdersSeen);
        }

        /** Owners get fewer only where a range has just been left behind: no other start needs a look. */
        int quietestStart(int length) {
            int best = 0;
            int fewest = holdersWithin(0, length);
            for (int i = 0; i < size; i++) {
                int start = endOf(i);
                if (start + length <= METERS) {
                    int holdersSeen = holdersWithin(start, length);
                    if (holdersSeen < fewest) {
                        fewest = holdersSeen;
                        best = start;
                    }
                }
            }
            return best;
        }

        /** Returns how many meters between the first range of an owner and the last one are not this owner's. */
        int metersBetween(int owner) {
            int first = NONE;
            int end = 0;
            for (int i = 0; i < size; i++) {
                if (holders.at(i) == owner) {
                    first = first == NONE ? starts.at(i) : first;
                    end = endOf(i);
                }
            }
            return first == NONE ? 0 : end - first - metersHeld.at(owner);
        }

        // Gap i lies before range i, the last gap behind all ranges; one without a meter is no hole.

        int startOfGap(int gap) {
            return gap > 0 ? starts.at(gap - 1) + lengths.at(gap - 1) : 0;
        }

        private int lengthOfGap(int gap) {
            return (gap < size ? starts.at(gap) : METERS) - startOfGap(gap);
        }

        int holes() {
            int holes = 0;
            for (int i = 0; i <= size; i++) {
                if (lengthOfGap(i) > 0) {
                    holes++;
                }
            }
            return holes;
        }

        int longestHole() {
            int longest = 0;
            for (int i = 0; i <= size; i++) {
                longest = Math.max(longest, lengthOfGap(i));
            }
            return longest;
        }

        /** Returns the first gap, or the first of the shortest or of the longest, that is long enough, or NONE. */
        int gapFor(int length, int how) {
            int best = NONE;
            int bestLength = 0;
            for (int i = 0; i <= size; i++) {
                int gapLength = lengthOfGap(i);
                if (gapLength >= length && (best == NONE || isBetter(gapLength, bestLength, how))) {
                    best = i;
                    bestLength = gapLength;
                }
            }
            return best;
        }

        private static boolean isBetter(int gapLength, int bestLength, int how) {
            return how == SHORTEST_HOLE && gapLength < bestLength || how == LONGEST_HOLE && gapLength > bestLength;
        }

        /** Returns the first range of the best exchange, the second one, or how many ranges it leaves, or NONE. */
        int bestExchange(int what) {
            int first = NONE;
            int second = NONE;
            int most = 0;
            for (int i = 0; i < size; i++) {
                for (int j = i + 1; j < size; j++) {
                    int joins = lengths.at(i) == lengths.at(j) ? joinsOfExchange(i, j) : 0;
                    if (joins > most) {
                        most = joins;
                        first = i;
                        second = j;
                    }
                }
            }
            if (what == 0 || first == NONE) {
                return first;
            }
            return what == 1 ? second : size - most;
        }

        /** Ranges side by side have different owners, so only those at the borders of the two can be joined. */
        private int joinsOfExchange(int first, int second) {
            if (holders.at(first) == holders.at(second)) {
                return 0;
            }
            // The border between two that are neighbours is looked at twice, but never joins them.
            return joinAt(first - 1, first, second) + joinAt(first, first, second)
                + joinAt(second - 1, first, second) + joinAt(second, first, second);
        }

        /** Returns 1 if a range and the next one would be one range if the two given were exchanged, else 0. */
        private int joinAt(int range, int first, int second) {
            if (!hasRange(range) || !hasRange(range + 1) || endOf(range) != starts.at(range + 1)) {
                return 0;
            }
            return holderAfter(range, first, second) == holderAfter(range + 1, first, second) ? 1 : 0;
        }

        private int holderAfter(int range, int first, int second) {
            if (range == first) {
                return holders.at(second);
            }
            return range == second ? holders.at(first) : holders.at(range);
        }
    }

    /** The transfers of the deal that is being made. */
    private static final class Deal {
        private final Row numbers = new Row(MOST_TRANSFERS * TRANSFER_NUMBERS);
        private int size;

        void copy(Deal other) {
            numbers.copy(other.numbers);
            size = other.size;
        }

        boolean hasTransfer(int transfer) {
            return transfer >= 0 && transfer < size;
        }

        int about(int transfer, int what) {
            return numbers.at(transfer * TRANSFER_NUMBERS + what);
        }

        void append(int from, int to, int first, int length, int price) {
            int place = size * TRANSFER_NUMBERS;
            numbers.store(place + FROM, from);
            numbers.store(place + TO, to);
            numbers.store(place + START, first);
            numbers.store(place + LENGTH, length);
            numbers.store(place + PRICE, price);
            size++;
        }
    }

    /** All that undo and restore bring back. */
    private static final class Register {
        private final Street street = new Street();
        private final Deal deal = new Deal();
        private final Row settings = new Row(SETTINGS);
        private final long[] purses = new long[MOST_OWNERS];
        /** What each owner paid as tax, less what was given back. */
        private final Row taxes = new Row(MOST_OWNERS);
        /** The meters that each owner lost because the tax could not be paid. */
        private final Row losses = new Row(MOST_OWNERS);
        private int owners;
        private int day;
        private int dealsClosed;
        private int feesPaid;

        Register() {
            for (int i = 0; i < FIRST_SETTING.length; i++) {
                settings.store(i, FIRST_SETTING[i]);
            }
        }

        void copy(Register other) {
            street.copy(other.street);
            deal.copy(other.deal);
            settings.copy(other.settings);
            System.arraycopy(other.purses, 0, purses, 0, Math.min(purses.length, other.purses.length));
            taxes.copy(other.taxes);
            losses.copy(other.losses);
            owners = other.owners;
            day = other.day;
            dealsClosed = other.dealsClosed;
            feesPaid = other.feesPaid;
        }

        boolean hasOwner(int owner) {
            return owner >= 0 && owner < owners;
        }

        long purseOf(int owner) {
            return owner >= 0 && owner < purses.length ? purses[owner] : 0;
        }

        void earn(int owner, long cents) {
            if (owner >= 0 && owner < purses.length) {
                purses[owner] += cents;
            }
        }

        /** Tells whether an owner may have so many meters more. */
        boolean mayGet(int owner, int meters) {
            return meters == 0 || street.metersHeld.at(owner) + meters <= settings.at(MOST);
        }

        /** Returns the tax of a day as things are. */
        int taxOf(int owner) {
            int tens = (street.metersHeld.at(owner) + 9) / 10;
            return street.rangesHeld.at(owner) * settings.at(RANGE_TAX) + tens * settings.at(LENGTH_TAX);
        }

        void passDay() {
            for (int i = 0; i < owners; i++) {
                chargeTax(i, taxOf(i));
                loseRanges(i);
            }
            day++;
        }

        private void chargeTax(int owner, int cents) {
            earn(owner, -cents);
            taxes.add(owner, cents);
        }

        private void loseRanges(int owner) {
            for (int left = street.rangesHeld.at(owner); left > 0 && purseOf(owner) < 0; left--) {
                int range = street.shortestOf(owner);
                int before = taxOf(owner);
                losses.add(owner, street.lengths.at(range));
                street.remove(range);
                chargeTax(owner, taxOf(owner) - before);
            }
        }

        /** The tax stays the same until a range is lost, so nothing of the street needs to be tried. */
        int daysToLoss(int owner) {
            int tax = taxOf(owner);
            long left = purseOf(owner);
            for (int i = 1; i <= DAYS_AHEAD && street.rangesHeld.at(owner) > 0; i++) {
                left -= tax;
                if (left < 0) {
                    return i;
                }
            }
            return NONE;
        }

        /** Does a transfer of the deal, and returns whether it could be done; if not, nothing is different. */
        boolean carryTransfer(int transfer, Street trial) {
            int from = deal.about(transfer, FROM);
            int to = deal.about(transfer, TO);
            int first = deal.about(transfer, START);
            int length = deal.about(transfer, LENGTH);
            int price = deal.about(transfer, PRICE);
            int fee = settings.at(FEE);
            if (street.metersWithin(from, first, length) != length || purseOf(to) < price + fee
                || !mayGet(to, length)) {
                return false;
            }
            trial.become(street, to, first, length);
            if (trial.size > MOST_RANGES || trial.hasShorter(from, settings.at(SHORTEST))
                || trial.hasShorter(to, settings.at(SHORTEST))) {
                return false;
            }
            street.copy(trial);
            earn(to, -price - fee);
            earn(from, price);
            feesPaid += fee;
            return true;
        }
    }

    /** The states before the latest changes, the oldest one first, and behind them one that is only prepared. */
    private static final class History {
        private final Register[] states = new Register[MOST_STATES + 1];
        private int size;

        History() {
            for (int i = 0; i < states.length; i++) {
                states[i] = new Register();
            }
        }

        /** Takes the state before a change, of which it is not known yet whether it returns an error. */
        void prepare(Register now) {
            Register state = size >= 0 && size < states.length ? states[size] : null;
            if (state != null) {
                state.copy(now);
            }
        }

        /** Records the state that was prepared if the change returns no error; returns what the change returns. */
        int finish(int answer) {
            if (answer < 0) {
                return answer;
            }
            if (size < MOST_STATES) {
                size++;
            } else {
                dropOldest();
            }
            return answer;
        }

        /** The oldest state goes behind the others, so that its rows are used again. */
        private void dropOldest() {
            Register oldest = states[0];
            for (int i = 1; i < states.length; i++) {
                states[i - 1] = states[i];
            }
            states[MOST_STATES] = oldest;
        }

        /** Copies the latest state, if there is one, and drops it. */
        boolean takeBack(Register now) {
            Register state = size > 0 && size <= states.length ? states[size - 1] : null;
            if (state == null) {
                return false;
            }
            now.copy(state);
            size--;
            return true;
        }
    }

    /** The pad, and the entry that was read from it last. */
    private static final class Pad {
        private final char[] signs = new char[MOST_CHARACTERS];
        private int size;
        /** Where the next sign is read; behind an entry with a fault it is the place of the fault. */
        private int place;
        private int kind;
        private int letter;
        private int number;
        private int secondNumber;

        /** Returns how many characters a number has, 0 if it is not the number of a text. */
        static int signsIn(long characters) {
            int signs = 0;
            long rest = characters;
            while (rest != 0 && signs < SIGNS_AT_ONCE) {
                long sign = rest & 255;
                if (sign < 33 || sign > 126) {
                    return 0;
                }
                signs++;
                rest >>>= 8;
            }
            return signs;
        }

        /** Appends the characters of a number, and returns whether there was room for them. */
        boolean append(long characters, int added) {
            if (added < 0 || added > MOST_CHARACTERS - size) {
                return false;
            }
            long rest = characters;
            for (int i = size + added - 1; i >= size; i--) {
                signs[i] = (char) (rest & 255);
                rest >>>= 8;
            }
            size += added;
            return true;
        }

        /** Returns the sign at the place, 0 behind the end, which nothing in a text equals. */
        private char sign() {
            return place >= 0 && place < size && place < signs.length ? signs[place] : 0;
        }

        /** Returns the fault of the whole pad, or NONE. */
        int findFault() {
            place = 0;
            for (int entries = 0; entries <= MOST_CHARACTERS; entries++) {
                if (!readEntry()) {
                    return place;
                }
                if (place == size) {
                    return NONE;
                }
                if (!readSign(';')) {
                    return place;
                }
            }
            return place;
        }

        /** Reads an entry, and returns whether it has no fault. */
        boolean readEntry() {
            kind = sign();
            if (kind != '+' && kind != '-' && kind != 'g' && kind != 'p' && kind != 'd') {
                return false;
            }
            place++;
            boolean hasLetter = kind == '+' || kind == 'g' || kind == 'p';
            if (hasLetter && !readLetter()) {
                return false;
            }
            if (!readNumber()) {
                return false;
            }
            if (kind != '+' && kind != '-') {
                return true;
            }
            int first = number;
            if (!readSign(':') || !readNumber()) {
                return false;
            }
            secondNumber = number;
            number = first;
            return true;
        }

        private boolean readSign(char due) {
            if (sign() != due) {
                return false;
            }
            place++;
            return true;
        }

        private boolean readLetter() {
            letter = sign() - 'A';
            if (letter < 0 || letter >= MOST_OWNERS) {
                return false;
            }
            place++;
            return true;
        }

        private boolean isDigit() {
            return sign() >= '0' && sign() <= '9';
        }

        /** Leaves a digit behind a 0, or a fifth one, unread: nothing that comes behind a number begins so. */
        private boolean readNumber() {
            if (!isDigit()) {
                return false;
            }
            number = sign() - '0';
            place++;
            for (int digits = 1; digits < 4 && number > 0 && isDigit(); digits++) {
                number = number * 10 + sign() - '0';
                place++;
            }
            return true;
        }
    }
}
