import java.util.ArrayList;
import java.util.List;

/**
 * The document once more, as plainly as can be: an owner for each meter, ranges counted anew at every call, and
 * states copied whole. It shares nothing with the program, so that both are unlikely to be wrong alike.
 */
final class MeterModel {
    static final int NO_SUCH = -1, BAD_VALUE = -2, BAD_TEXT = -3, TOO_MANY = -4, NOT_POSSIBLE = -5, NONE = -6;
    static final int METERS = 10000;

    /** A range: owner, first meter, length. */
    record Range(int owner, int first, int length) { }

    /** A transfer of the deal. */
    record Transfer(int from, int to, int first, int length, int price) {
        int about(int what) {
            return new int[] {from, to, first, length, price}[what];
        }
    }

    /** All that undo brings back. */
    static final class State {
        int[] street = new int[METERS];
        List<Long> money = new ArrayList<>();
        int[] taxPaid = new int[10];
        int[] lost = new int[10];
        int[] settings = {10, 25, 5, 1, 10000};
        List<Transfer> deal = new ArrayList<>();
        int day;
        int closed;
        int fees;
        /** What the street looks like, null when it has been painted since it was looked at. */
        private List<Range> ranges;
        private List<Range> holes;

        State() {
            java.util.Arrays.fill(street, -1);
        }

        State copy() {
            State copy = new State();
            copy.street = street.clone();
            copy.money = new ArrayList<>(money);
            copy.taxPaid = taxPaid.clone();
            copy.lost = lost.clone();
            copy.settings = settings.clone();
            copy.deal = new ArrayList<>(deal);
            copy.day = day;
            copy.closed = closed;
            copy.fees = fees;
            return copy;
        }

        boolean isOwner(int owner) {
            return owner >= 0 && owner < money.size();
        }

        /** The meters of an owner, or of none (-1). */
        int meters(int owner) {
            int meters = 0;
            for (Range row : owner < 0 ? holes() : ranges()) {
                meters += row.owner == owner ? row.length : 0;
            }
            return meters;
        }

        List<Range> ranges() {
            look();
            return ranges;
        }

        List<Range> holes() {
            look();
            return holes;
        }

        private void look() {
            if (ranges != null) {
                return;
            }
            ranges = new ArrayList<>();
            holes = new ArrayList<>();
            int first = 0;
            for (int m = 1; m <= METERS; m++) {
                if (m == METERS || street[m] != street[first]) {
                    (street[first] == -1 ? holes : ranges).add(new Range(street[first], first, m - first));
                    first = m;
                }
            }
        }

        List<Range> ranges(int owner) {
            List<Range> own = new ArrayList<>();
            for (Range range : ranges()) {
                if (range.owner == owner) {
                    own.add(range);
                }
            }
            return own;
        }

        int tax(int owner) {
            int meters = meters(owner);
            return ranges(owner).size() * settings[1] + settings[0] * (meters / 10 + (meters % 10 == 0 ? 0 : 1));
        }

        void paint(int owner, int first, int length) {
            for (int m = first; m < first + length; m++) {
                street[m] = owner;
            }
            ranges = null;
            holes = null;
        }
    }

    State now = new State();
    List<State> history = new ArrayList<>();
    State[] slots = new State[2];
    StringBuilder pad = new StringBuilder();

    private int changed(State before, int answer) {
        if (answer < 0) {
            now = before;
            return answer;
        }
        history.add(before);
        if (history.size() > 6) {
            history.remove(0);
        }
        return answer;
    }

    private static boolean piece(int first, int length) {
        return first >= 0 && first <= 9999 && length >= 1 && length <= 10000 && (long) first + length - 1 <= 9999;
    }

    int set(int setting, int value) {
        int[] low = {0, 0, 0, 1, 1};
        int[] high = {1000, 1000, 1000, 100, 10000};
        if (setting < 0 || setting > 4 || value < low[setting] || value > high[setting]) {
            return BAD_VALUE;
        }
        State before = now.copy();
        int previous = now.settings[setting];
        now.settings[setting] = value;
        return changed(before, previous);
    }

    int owner(int money) {
        if (money < 0 || money > 1000000) {
            return BAD_VALUE;
        }
        if (now.money.size() == 10) {
            return TOO_MANY;
        }
        State before = now.copy();
        now.money.add((long) money);
        return changed(before, now.money.size() - 1);
    }

    int pay(int owner, int cents) {
        State before = now.copy();
        return changed(before, doPay(owner, cents));
    }

    private int doPay(int owner, int cents) {
        if (!now.isOwner(owner)) {
            return NO_SUCH;
        }
        if (cents < 0 || cents > 1000000) {
            return BAD_VALUE;
        }
        now.money.set(owner, now.money.get(owner) + cents);
        return now.money.get(owner) >= 0 ? 1 : 0;
    }

    int give(int owner, int first, int length) {
        State before = now.copy();
        return changed(before, doGive(owner, first, length));
    }

    private int doGive(int owner, int first, int length) {
        if (!now.isOwner(owner)) {
            return NO_SUCH;
        }
        if (!piece(first, length)) {
            return BAD_VALUE;
        }
        State then = now.copy();
        then.paint(owner, first, length);
        int ranges = then.ranges().size();
        if (ranges > 40) {
            return TOO_MANY;
        }
        if (then.meters(owner) > now.meters(owner) && then.meters(owner) > now.settings[4]) {
            return NOT_POSSIBLE;
        }
        now = then;
        return ranges;
    }

    int free(int first, int length) {
        State before = now.copy();
        return changed(before, doFree(first, length));
    }

    private int doFree(int first, int length) {
        if (!piece(first, length)) {
            return BAD_VALUE;
        }
        State then = now.copy();
        then.paint(-1, first, length);
        int ranges = then.ranges().size();
        if (ranges > 40) {
            return TOO_MANY;
        }
        now = then;
        return ranges;
    }

    int grab(int owner, int length) {
        State before = now.copy();
        return changed(before, doGrab(owner, length));
    }

    private int doGrab(int owner, int length) {
        if (!now.isOwner(owner)) {
            return NO_SUCH;
        }
        if (length < 1 || length > 10000) {
            return BAD_VALUE;
        }
        for (Range hole : now.holes()) {
            if (hole.length >= length) {
                int answer = doGive(owner, hole.first, length);
                return answer < 0 ? answer : hole.first;
            }
        }
        return NOT_POSSIBLE;
    }

    int inherit(int owner, int heir) {
        if (!now.isOwner(owner) || !now.isOwner(heir) || owner == heir) {
            return NO_SUCH;
        }
        int meters = now.meters(owner);
        if (meters > 0 && meters + now.meters(heir) > now.settings[4]) {
            return NOT_POSSIBLE;
        }
        State before = now.copy();
        for (Range range : before.ranges(owner)) {
            now.paint(heir, range.first, range.length);
        }
        return changed(before, meters);
    }

    int transfer(int from, int to, int first, int length, int price) {
        if (!now.isOwner(from) || !now.isOwner(to) || from == to) {
            return NO_SUCH;
        }
        if (!piece(first, length) || price < 0 || price > 1000000) {
            return BAD_VALUE;
        }
        if (now.deal.size() == 8) {
            return TOO_MANY;
        }
        State before = now.copy();
        now.deal.add(new Transfer(from, to, first, length, price));
        return changed(before, now.deal.size());
    }

    int drop() {
        if (now.deal.isEmpty()) {
            return NOT_POSSIBLE;
        }
        State before = now.copy();
        now.deal.remove(now.deal.size() - 1);
        return changed(before, now.deal.size());
    }

    int close() {
        if (now.deal.isEmpty() || failing() != NONE) {
            return NOT_POSSIBLE;
        }
        State before = now.copy();
        for (Transfer transfer : now.deal) {
            carry(now, transfer);
        }
        int transfers = now.deal.size();
        now.deal.clear();
        now.closed++;
        return changed(before, transfers);
    }

    int failing() {
        State then = now.copy();
        for (int i = 0; i < then.deal.size(); i++) {
            if (!carry(then, then.deal.get(i))) {
                return i;
            }
        }
        return NONE;
    }

    private static boolean carry(State state, Transfer t) {
        for (int m = t.first; m < t.first + t.length; m++) {
            if (state.street[m] != t.from) {
                return false;
            }
        }
        if (state.money.get(t.to) < t.price + state.settings[2]
            || state.meters(t.to) + t.length > state.settings[4]) {
            return false;
        }
        state.paint(t.to, t.first, t.length);
        List<Range> ranges = state.ranges();
        for (Range range : ranges) {
            if ((range.owner == t.from || range.owner == t.to) && range.length < state.settings[3]) {
                return false;
            }
        }
        state.money.set(t.to, state.money.get(t.to) - t.price - state.settings[2]);
        state.money.set(t.from, state.money.get(t.from) + t.price);
        state.fees += state.settings[2];
        return ranges.size() <= 40;
    }

    int days(int days) {
        State before = now.copy();
        return changed(before, doDays(days));
    }

    private int doDays(int days) {
        if (days < 1 || days > 60) {
            return BAD_VALUE;
        }
        for (int d = 0; d < days; d++) {
            for (int o = 0; o < now.money.size(); o++) {
                taxDay(now, o);
            }
            now.day++;
        }
        return now.day;
    }

    private static void taxDay(State state, int owner) {
        int tax = state.tax(owner);
        state.money.set(owner, state.money.get(owner) - tax);
        state.taxPaid[owner] += tax;
        while (state.money.get(owner) < 0 && !state.ranges(owner).isEmpty()) {
            Range worst = null;
            for (Range range : state.ranges(owner)) {
                if (worst == null || range.length <= worst.length) {
                    worst = range;
                }
            }
            int meters = state.meters(owner);
            int tens = (int) Math.ceil(meters / 10.0);
            int tensThen = (int) Math.ceil((meters - worst.length) / 10.0);
            int back = state.settings[1] + (tens - tensThen) * state.settings[0];
            state.money.set(owner, state.money.get(owner) + back);
            state.taxPaid[owner] -= back;
            state.lost[owner] += worst.length;
            state.paint(-1, worst.first, worst.length);
        }
    }

    int ofRange(int range, int what) {
        List<Range> ranges = now.ranges();
        if (range < 0 || range >= ranges.size()) {
            return NO_SUCH;
        }
        if (what < 0 || what > 2) {
            return BAD_VALUE;
        }
        Range r = ranges.get(range);
        return new int[] {r.owner, r.first, r.length}[what];
    }

    int ofOwner(int owner, int what) {
        if (!now.isOwner(owner)) {
            return NO_SUCH;
        }
        int longest = 0;
        for (Range range : now.ranges(owner)) {
            longest = Math.max(longest, range.length);
        }
        switch (what) {
            case 0: return now.ranges(owner).size();
            case 1: return now.meters(owner);
            case 2: return longest;
            case 3: return now.tax(owner);
            case 4: return now.taxPaid[owner];
            case 5: return now.lost[owner];
            default: return BAD_VALUE;
        }
    }

    long money(int owner) {
        return now.isOwner(owner) ? now.money.get(owner) : NO_SUCH;
    }

    int ownerAt(int meter) {
        if (meter < 0 || meter > 9999) {
            return BAD_VALUE;
        }
        return now.street[meter] < 0 ? NONE : now.street[meter];
    }

    int ofTransfer(int transfer, int what) {
        if (transfer < 0 || transfer >= now.deal.size()) {
            return NO_SUCH;
        }
        return what < 0 || what > 4 ? BAD_VALUE : now.deal.get(transfer).about(what);
    }

    int count(int what) {
        int longest = 0;
        for (Range hole : now.holes()) {
            longest = Math.max(longest, hole.length);
        }
        switch (what) {
            case 0: return now.day;
            case 1: return now.money.size();
            case 2: return now.ranges().size();
            case 3: return METERS - now.meters(-1);
            case 4: return now.holes().size();
            case 5: return longest;
            case 6: return now.deal.size();
            case 7: return now.closed;
            case 8: return now.fees;
            case 9: return java.util.Arrays.stream(now.taxPaid).sum();
            case 10: return pad.length();
            case 11: return history.size();
            case 12: case 13: case 14: case 15: case 16: return now.settings[what - 12];
            default: return BAD_VALUE;
        }
    }

    int shareBits(int owner) {
        if (!now.isOwner(owner)) {
            return NO_SUCH;
        }
        int all = METERS - now.meters(-1);
        return all == 0 ? 0 : Float.floatToIntBits((float) ((double) now.meters(owner) / all));
    }

    int hole(int length, int how) {
        if (length < 1 || length > 10000 || how < 0 || how > 2) {
            return BAD_VALUE;
        }
        Range best = null;
        for (Range hole : now.holes()) {
            if (hole.length >= length && (best == null || how == 1 && hole.length < best.length
                || how == 2 && hole.length > best.length)) {
                best = hole;
            }
        }
        return best == null ? NONE : best.first;
    }

    int wouldBe(int owner, int first, int length) {
        if (!now.isOwner(owner)) {
            return NO_SUCH;
        }
        if (!piece(first, length)) {
            return BAD_VALUE;
        }
        State then = now.copy();
        then.paint(owner, first, length);
        return then.ranges().size();
    }

    int quietest(int length, int what) {
        if (length < 1 || length > 10000 || what < 0 || what > 1) {
            return BAD_VALUE;
        }
        int[] seen = new int[10];
        int different = 0;
        int best = -1;
        int fewest = 11;
        for (int m = 0; m < METERS; m++) {
            if (now.street[m] >= 0 && seen[now.street[m]]++ == 0) {
                different++;
            }
            int gone = m - length;
            if (gone >= 0 && now.street[gone] >= 0 && --seen[now.street[gone]] == 0) {
                different--;
            }
            if (gone >= -1 && different < fewest) {
                fewest = different;
                best = gone + 1;
            }
        }
        return what == 0 ? best : fewest;
    }

    int gaps(int owner) {
        if (!now.isOwner(owner)) {
            return NO_SUCH;
        }
        List<Range> own = now.ranges(owner);
        if (own.size() < 2) {
            return 0;
        }
        Range last = own.get(own.size() - 1);
        int meters = 0;
        for (int m = own.get(0).first; m < last.first + last.length; m++) {
            meters += now.street[m] == owner ? 0 : 1;
        }
        return meters;
    }

    int exchange(int what) {
        if (what < 0 || what > 2) {
            return BAD_VALUE;
        }
        List<Range> ranges = now.ranges();
        int[] best = {NONE, NONE, ranges.size()};
        for (int i = 0; i < ranges.size(); i++) {
            for (int j = i + 1; j < ranges.size(); j++) {
                Range a = ranges.get(i);
                Range b = ranges.get(j);
                if (a.length == b.length && a.owner != b.owner) {
                    int then = rangesAfterExchange(ranges, i, j);
                    if (then < best[2]) {
                        best = new int[] {i, j, then};
                    }
                }
            }
        }
        return best[0] == NONE ? NONE : best[what];
    }

    private static int rangesAfterExchange(List<Range> ranges, int i, int j) {
        int count = 0;
        int lastOwner = -1;
        int lastEnd = -1;
        for (int k = 0; k < ranges.size(); k++) {
            int owner = ranges.get(k == i ? j : k == j ? i : k).owner;
            if (owner != lastOwner || ranges.get(k).first != lastEnd) {
                count++;
            }
            lastOwner = owner;
            lastEnd = ranges.get(k).first + ranges.get(k).length;
        }
        return count;
    }

    int losesIn(int owner) {
        if (!now.isOwner(owner)) {
            return NO_SUCH;
        }
        State then = now.copy();
        int lost = then.lost[owner];
        for (int d = 1; d <= 300; d++) {
            taxDay(then, owner);
            if (then.lost[owner] != lost) {
                return d;
            }
        }
        return NONE;
    }

    int put(long characters) {
        StringBuilder added = new StringBuilder();
        boolean ended = false;
        for (int shift = 0; shift < 64; shift += 8) {
            int code = (int) (characters >>> shift & 255);
            if (code == 0) {
                ended = true;
            } else if (ended || code < 33 || code > 126) {
                return BAD_VALUE;
            } else {
                added.insert(0, (char) code);
            }
        }
        if (added.length() == 0) {
            return BAD_VALUE;
        }
        if (pad.length() + added.length() > 80) {
            return TOO_MANY;
        }
        pad.append(added);
        return pad.length();
    }

    int wipe() {
        int length = pad.length();
        pad.setLength(0);
        return length;
    }

    /** The first end of the text at which no whole text begins any more; tried letter by letter. */
    int fault() {
        for (int end = 1; end <= pad.length(); end++) {
            if (!canBegin(pad.substring(0, end))) {
                return end - 1;
            }
        }
        return pad.toString().matches(ENTRY + "(;" + ENTRY + ")*") ? NONE : pad.length();
    }

    private static final String NUMBER = "(0|[1-9][0-9]{0,3})";
    private static final String ENTRY =
        "(\\+[A-J]" + NUMBER + ":" + NUMBER + "|-" + NUMBER + ":" + NUMBER + "|[gp][A-J]" + NUMBER + "|d" + NUMBER + ")";

    private static boolean canBegin(String text) {
        java.util.regex.Matcher matcher =
            java.util.regex.Pattern.compile(ENTRY + "(;" + ENTRY + ")*").matcher(text);
        return matcher.matches() || matcher.hitEnd();
    }

    int carryOut() {
        if (fault() != NONE) {
            return BAD_TEXT;
        }
        State before = now.copy();
        int done = 0;
        for (String entry : pad.toString().split(";")) {
            if (doEntry(entry) < 0) {
                break;
            }
            done++;
        }
        pad.setLength(0);
        return changed(before, done);
    }

    private int doEntry(String entry) {
        char kind = entry.charAt(0);
        if (kind == 'd') {
            return doDays(Integer.parseInt(entry.substring(1)));
        }
        if (kind == '-') {
            String[] parts = entry.substring(1).split(":");
            return doFree(Integer.parseInt(parts[0]), Integer.parseInt(parts[1]));
        }
        int owner = entry.charAt(1) - 'A';
        String[] parts = entry.substring(2).split(":");
        int number = Integer.parseInt(parts[0]);
        if (kind == '+') {
            return doGive(owner, number, Integer.parseInt(parts[1]));
        }
        return kind == 'g' ? doGrab(owner, number) : doPay(owner, number);
    }

    int undo() {
        if (history.isEmpty()) {
            return NOT_POSSIBLE;
        }
        now = history.remove(history.size() - 1);
        return history.size();
    }

    int save(int slot) {
        if (slot < 0 || slot > 1) {
            return BAD_VALUE;
        }
        slots[slot] = now.copy();
        return now.day;
    }

    int restore(int slot) {
        if (slot < 0 || slot > 1) {
            return BAD_VALUE;
        }
        if (slots[slot] == null) {
            return NOT_POSSIBLE;
        }
        State before = now;
        now = slots[slot].copy();
        return changed(before, now.day);
    }
}
