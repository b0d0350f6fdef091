/** For each promise of the document its ordinary answers, its edges, and its errors in their order. */
public final class PromiseTests {
    private static final int NO_SUCH = -1, BAD_VALUE = -2, BAD_TEXT = -3, TOO_MANY = -4, NOT_POSSIBLE = -5, NONE = -6;
    private static final int LEAST = Integer.MIN_VALUE, GREATEST = Integer.MAX_VALUE;

    private final Check check = new Check("PromiseTests");

    public static void main(String[] args) {
        PromiseTests tests = new PromiseTests();
        tests.settingUp();
        tests.street();
        tests.deals();
        tests.whatThereIs();
        tests.whatIf();
        tests.texts();
        tests.undoAndSaving();
        tests.check.end();
    }

    private void settingUp() {
        newObject();
        settings();
        settingsLeaveTheStreet();
        owners();
        payments();
    }

    private void street() {
        gives();
        giveErrors();
        giveTooMany();
        giveMost();
        frees();
        grabs();
        grabErrors();
        inherits();
    }

    private void deals() {
        transfers();
        drops();
        closes();
        closeOneAfterTheOther();
        closeFails();
        closeShortest();
        closeTooManyRanges();
        failings();
        daysAndTax();
        daysLoseRanges();
        dayErrors();
    }

    private void whatThereIs() {
        ranges();
        ownerNumbers();
        moneys();
        meters();
        transferNumbers();
        counts();
        shares();
        allShares();
    }

    private void whatIf() {
        holes();
        wouldBes();
        quietests();
        gapsOfOwners();
        exchanges();
        losses();
    }

    private void texts() {
        puts();
        wipes();
        faults();
        carriesOut();
        carriesOutUpToAnError();
    }

    private void undoAndSaving() {
        undos();
        undoOfEachChange();
        noChanges();
        savesAndRestores();
    }

    private void due(String call, long got, long want) {
        check.due(call, got, want);
    }

    /** A street with so many owners of 1000 cents. */
    private static RangeDeeds withOwners(int owners) {
        RangeDeeds x = new RangeDeeds();
        for (int i = 0; i < owners; i++) {
            x.owner(1000);
        }
        return x;
    }

    /** 40 ranges of one meter, of owner 0, at 0, 2, 4 .. 78. */
    private static RangeDeeds withFortyRanges() {
        RangeDeeds x = withOwners(3);
        for (int i = 0; i < 40; i++) {
            x.give(0, 2 * i, 1);
        }
        return x;
    }

    private static void putText(RangeDeeds x, String text) {
        for (int at = 0; at < text.length(); at += 8) {
            x.put(number(text.substring(at, Math.min(at + 8, text.length()))));
        }
    }

    private static long number(String signs) {
        long number = 0;
        for (int i = 0; i < signs.length(); i++) {
            number = number << 8 | signs.charAt(i);
        }
        return number;
    }

    private static RangeDeeds withText(int owners, String text) {
        RangeDeeds x = withOwners(owners);
        putText(x, text);
        return x;
    }

    // ---- setting up

    private void newObject() {
        check.part("promise 1");
        RangeDeeds x = new RangeDeeds();
        int[] counts = {0, 0, 0, 0, 1, 10000, 0, 0, 0, 0, 0, 0, 10, 25, 5, 1, 10000};
        for (int what = 0; what < counts.length; what++) {
            due("count(" + what + ")", x.count(what), counts[what]);
        }
        due("ownerAt(0)", x.ownerAt(0), NONE);
        due("ownerAt(9999)", x.ownerAt(9999), NONE);
        due("ofRange(0, 0)", x.ofRange(0, 0), NO_SUCH);
        due("ofOwner(0, 0)", x.ofOwner(0, 0), NO_SUCH);
        due("undo()", x.undo(), NOT_POSSIBLE);
        due("drop()", x.drop(), NOT_POSSIBLE);
        due("restore(0)", x.restore(0), NOT_POSSIBLE);
        due("restore(1)", x.restore(1), NOT_POSSIBLE);
        due("wipe()", x.wipe(), 0);
        RangeDeeds other = new RangeDeeds();
        x.owner(5);
        due("count(1) of another object", other.count(1), 0);
    }

    private void settings() {
        check.part("promise 2");
        int[] lowest = {0, 0, 0, 1, 1};
        int[] highest = {1000, 1000, 1000, 100, 10000};
        int[] first = {10, 25, 5, 1, 10000};
        RangeDeeds x = new RangeDeeds();
        for (int i = 0; i < 5; i++) {
            due("set below " + i, x.set(i, lowest[i] - 1), BAD_VALUE);
            due("set above " + i, x.set(i, highest[i] + 1), BAD_VALUE);
            due("set least " + i, x.set(i, LEAST), BAD_VALUE);
            due("set greatest " + i, x.set(i, GREATEST), BAD_VALUE);
            due("count", x.count(12 + i), first[i]);
            due("set lowest " + i, x.set(i, lowest[i]), first[i]);
            due("count", x.count(12 + i), lowest[i]);
            due("set highest " + i, x.set(i, highest[i]), lowest[i]);
            due("count", x.count(12 + i), highest[i]);
            due("set again " + i, x.set(i, highest[i]), highest[i]);
        }
        due("set(-1, 1)", x.set(-1, 1), BAD_VALUE);
        due("set(5, 1)", x.set(5, 1), BAD_VALUE);
        due("set(greatest, 1)", x.set(GREATEST, 1), BAD_VALUE);
        due("set(least, 1)", x.set(LEAST, 1), BAD_VALUE);
        due("count(11)", x.count(11), 6);
    }

    private void settingsLeaveTheStreet() {
        check.part("promise 2, the street");
        RangeDeeds x = withOwners(1);
        x.give(0, 0, 50);
        due("set(4, 10)", x.set(4, 10), 10000);
        due("set(3, 60)", x.set(3, 60), 1);
        due("ofOwner(0, 1)", x.ofOwner(0, 1), 50);
        due("give of own meters", x.give(0, 5, 20), 1);
        due("give of one meter more", x.give(0, 49, 2), NOT_POSSIBLE);
        due("set(0, 1000)", x.set(0, 1000), 10);
        due("ofOwner(0, 3)", x.ofOwner(0, 3), 5025);
    }

    private void owners() {
        check.part("promise 3");
        RangeDeeds x = new RangeDeeds();
        due("owner(-1)", x.owner(-1), BAD_VALUE);
        due("owner(1000001)", x.owner(1000001), BAD_VALUE);
        due("owner(least)", x.owner(LEAST), BAD_VALUE);
        due("owner(0)", x.owner(0), 0);
        due("owner(1000000)", x.owner(1000000), 1);
        due("money(0)", x.money(0), 0);
        due("money(1)", x.money(1), 1000000);
        for (int i = 2; i < 10; i++) {
            due("owner(" + i + ")", x.owner(i), i);
        }
        due("owner(5)", x.owner(5), TOO_MANY);
        due("owner(-5)", x.owner(-5), BAD_VALUE);
        due("count(1)", x.count(1), 10);
        due("money(9)", x.money(9), 9);
    }

    private void payments() {
        check.part("promise 4");
        RangeDeeds x = withOwners(2);
        due("pay(0, 0)", x.pay(0, 0), 1);
        RangeDeeds poor = new RangeDeeds();
        poor.owner(0);
        due("0 cents are not below 0", poor.pay(0, 0), 1);
        due("pay(1, 1000000)", x.pay(1, 1000000), 1);
        due("money(1)", x.money(1), 1001000);
        due("money(0)", x.money(0), 1000);
        due("pay(2, 5)", x.pay(2, 5), NO_SUCH);
        due("pay(-1, -1)", x.pay(-1, -1), NO_SUCH);
        due("pay(0, -1)", x.pay(0, -1), BAD_VALUE);
        due("pay(0, 1000001)", x.pay(0, 1000001), BAD_VALUE);
        due("money(0)", x.money(0), 1000);
        for (int i = 0; i < 400; i++) {
            x.pay(1, 1000000);
        }
        due("money(1)", x.money(1), 401001000L);
    }

    // ---- the street

    private void gives() {
        check.part("promise 5");
        RangeDeeds x = withOwners(2);
        due("give(0, 100, 50)", x.give(0, 100, 50), 1);
        due("give in the middle", x.give(1, 120, 10), 3);
        due("ofRange(0, 2)", x.ofRange(0, 2), 20);
        due("ofRange(2, 1)", x.ofRange(2, 1), 130);
        due("ofRange(2, 2)", x.ofRange(2, 2), 20);
        due("joined on both sides", x.give(0, 120, 10), 1);
        due("joined behind", x.give(0, 150, 1), 1);
        due("joined before", x.give(0, 99, 1), 1);
        due("ofRange(0, 1)", x.ofRange(0, 1), 99);
        due("ofRange(0, 2)", x.ofRange(0, 2), 52);
        due("a meter apart", x.give(0, 152, 1), 2);
        due("over several", x.give(1, 140, 13), 2);
        due("ofRange(0, 2)", x.ofRange(0, 2), 41);
        due("ofRange(1, 2)", x.ofRange(1, 2), 13);
        due("beside another owner", x.give(0, 153, 7), 3);
        due("the whole street", x.give(1, 0, 10000), 1);
        due("ofRange(0, 2)", x.ofRange(0, 2), 10000);
        due("the last meter", x.give(0, 9999, 1), 2);
        due("the first meter", x.give(0, 0, 1), 3);
        due("ownerAt(9999)", x.ownerAt(9999), 0);
        due("ownerAt(9998)", x.ownerAt(9998), 1);
        due("money(0)", x.money(0), 1000);
    }

    private void giveErrors() {
        check.part("promise 5, errors");
        RangeDeeds x = withOwners(1);
        due("no such owner", x.give(1, -1, 0), NO_SUCH);
        due("owner -1", x.give(-1, 0, 1), NO_SUCH);
        due("owner least", x.give(LEAST, 0, 1), NO_SUCH);
        due("first -1", x.give(0, -1, 5), BAD_VALUE);
        due("first 10000", x.give(0, 10000, 1), BAD_VALUE);
        due("first least", x.give(0, LEAST, 1), BAD_VALUE);
        due("length 0", x.give(0, 0, 0), BAD_VALUE);
        due("length -1", x.give(0, 5, -1), BAD_VALUE);
        due("length 10001", x.give(0, 0, 10001), BAD_VALUE);
        due("over the end", x.give(0, 9999, 2), BAD_VALUE);
        due("over the end", x.give(0, 1, 10000), BAD_VALUE);
        due("over the ints", x.give(0, 5, GREATEST), BAD_VALUE);
        due("over the ints", x.give(0, GREATEST, GREATEST), BAD_VALUE);
        due("count(2)", x.count(2), 0);
        due("count(11)", x.count(11), 1);
    }

    private void giveTooMany() {
        check.part("promise 5, 40 ranges");
        RangeDeeds x = withFortyRanges();
        due("count(2)", x.count(2), 40);
        due("one more", x.give(0, 80, 1), TOO_MANY);
        due("joined with the last", x.give(0, 79, 1), 40);
        due("joins two", x.give(0, 1, 1), 39);
        due("in the middle, two more", x.give(1, 1, 1), TOO_MANY);
        due("at an end, one more", x.give(1, 0, 1), 40);
        x.set(4, 1);
        due("TOO_MANY comes before NOT_POSSIBLE", x.give(0, 100, 5), TOO_MANY);
        due("NOT_POSSIBLE", x.give(0, 3, 1), NOT_POSSIBLE);
        due("count(2)", x.count(2), 40);
    }

    private void giveMost() {
        check.part("promise 5, MOST");
        RangeDeeds x = withOwners(2);
        x.set(4, 60);
        due("give(0, 0, 61)", x.give(0, 0, 61), NOT_POSSIBLE);
        due("give(0, 0, 60)", x.give(0, 0, 60), 1);
        due("one more", x.give(0, 50, 11), NOT_POSSIBLE);
        due("its own", x.give(0, 50, 10), 1);
        due("another owner", x.give(1, 30, 30), 2);
        due("as many again", x.give(0, 20, 40), 1);
        due("ofOwner(0, 1)", x.ofOwner(0, 1), 60);
        x.set(4, 20);
        due("its own, though above MOST", x.give(0, 0, 60), 1);
        due("to have fewer is possible", x.free(0, 10), 1);
        due("still above", x.give(0, 0, 1), NOT_POSSIBLE);
    }

    private void frees() {
        check.part("promise 6");
        RangeDeeds x = withOwners(2);
        due("a hole of a hole", x.free(0, 10000), 0);
        x.give(0, 100, 50);
        x.give(1, 150, 50);
        due("free in the middle", x.free(110, 5), 3);
        due("over two owners", x.free(140, 20), 3);
        due("ofRange(1, 2)", x.ofRange(1, 2), 25);
        due("ofRange(2, 1)", x.ofRange(2, 1), 160);
        due("free all", x.free(0, 10000), 0);
        due("count(4)", x.count(4), 1);
        due("first -1", x.free(-1, 5), BAD_VALUE);
        due("first 10000", x.free(10000, 1), BAD_VALUE);
        due("length 0", x.free(0, 0), BAD_VALUE);
        due("length 10001", x.free(0, 10001), BAD_VALUE);
        due("over the end", x.free(9000, 1001), BAD_VALUE);
        due("to the end", x.free(9000, 1000), 0);
        due("over the ints", x.free(9000, GREATEST), BAD_VALUE);
        RangeDeeds full = withFortyRanges();
        full.give(0, 79, 2);
        due("41 ranges", full.free(79, 1), TOO_MANY);
        due("40 ranges, a meter fewer", full.free(80, 1), 40);
        due("40 ranges, two meters fewer", full.free(79, 1), 40);
        full.give(0, 79, 2);
        due("count(2)", full.count(2), 40);
        due("fewer", full.free(78, 3), 39);
    }

    private void grabs() {
        check.part("promise 7");
        RangeDeeds x = withOwners(2);
        x.give(0, 0, 10);
        x.give(0, 15, 10);
        x.give(1, 40, 10);
        due("a hole too short is passed", x.grab(1, 6), 25);
        due("ofRange(2, 1)", x.ofRange(2, 1), 25);
        due("the whole hole, joined", x.grab(0, 5), 10);
        due("ofRange(0, 2)", x.ofRange(0, 2), 25);
        due("joined with what lies behind", x.grab(1, 9), 31);
        due("ofRange(1, 2)", x.ofRange(1, 2), 25);
        due("to the end", x.grab(0, 9950), 50);
        due("no hole", x.grab(0, 1), NOT_POSSIBLE);
        due("ofRange(2, 2)", x.ofRange(2, 2), 9950);
    }

    private void grabErrors() {
        check.part("promise 7, errors");
        RangeDeeds x = withOwners(1);
        due("no such owner", x.grab(1, 0), NO_SUCH);
        due("owner -1", x.grab(-1, 5), NO_SUCH);
        due("length 0", x.grab(0, 0), BAD_VALUE);
        due("length 10001", x.grab(0, 10001), BAD_VALUE);
        due("length least", x.grab(0, LEAST), BAD_VALUE);
        x.set(4, 9999);
        due("MOST", x.grab(0, 10000), NOT_POSSIBLE);
        due("as many as MOST", x.grab(0, 9999), 0);
        RangeDeeds full = withFortyRanges();
        due("grab(1, 5)", full.grab(1, 5), TOO_MANY);
        full.set(4, 3);
        due("TOO_MANY comes before NOT_POSSIBLE", full.grab(1, 5), TOO_MANY);
        due("no hole at all", full.grab(1, 9922), NOT_POSSIBLE);
        due("joins two, but MOST", full.grab(0, 1), NOT_POSSIBLE);
        full.set(4, 41);
        due("joins two", full.grab(0, 1), 1);
        due("count(2)", full.count(2), 39);
    }

    private void inherits() {
        check.part("promise 8");
        RangeDeeds x = withOwners(3);
        x.give(0, 0, 10);
        x.give(1, 10, 10);
        x.give(0, 20, 10);
        x.give(2, 50, 5);
        x.give(0, 60, 3);
        due("inherit(0, 1)", x.inherit(0, 1), 23);
        due("count(2)", x.count(2), 3);
        due("ofRange(0, 2)", x.ofRange(0, 2), 30);
        due("ofRange(2, 0)", x.ofRange(2, 0), 1);
        due("ofOwner(0, 1)", x.ofOwner(0, 1), 0);
        due("money(0)", x.money(0), 1000);
        due("nothing to inherit", x.inherit(0, 2), 0);
        due("the same", x.inherit(1, 1), NO_SUCH);
        due("no such owner", x.inherit(3, 1), NO_SUCH);
        due("no such heir", x.inherit(1, 3), NO_SUCH);
        due("owner -1", x.inherit(-1, -1), NO_SUCH);
        x.set(4, 37);
        due("one too many", x.inherit(1, 2), NOT_POSSIBLE);
        due("one too many", x.inherit(2, 1), NOT_POSSIBLE);
        x.set(4, 38);
        due("as many as MOST", x.inherit(1, 2), 33);
        x.set(4, 1);
        due("no meters are no matter, though above MOST", x.inherit(0, 2), 0);
        due("ofRange(1, 1)", x.ofRange(1, 1), 50);
    }

    // ---- deals

    private void transfers() {
        check.part("promise 9");
        RangeDeeds x = withOwners(2);
        due("no such first owner", x.transfer(2, 0, -1, 0, -1), NO_SUCH);
        due("no such second owner", x.transfer(0, 2, 0, 1, 0), NO_SUCH);
        due("owner -1", x.transfer(-1, 0, 0, 1, 0), NO_SUCH);
        due("the same", x.transfer(1, 1, 0, 1, 0), NO_SUCH);
        due("first -1", x.transfer(0, 1, -1, 1, 0), BAD_VALUE);
        due("first 10000", x.transfer(0, 1, 10000, 1, 0), BAD_VALUE);
        due("length 0", x.transfer(0, 1, 0, 0, 0), BAD_VALUE);
        due("over the end", x.transfer(0, 1, 9999, 2, 0), BAD_VALUE);
        due("over the ints", x.transfer(0, 1, 9999, GREATEST, 0), BAD_VALUE);
        due("price -1", x.transfer(0, 1, 0, 1, -1), BAD_VALUE);
        due("price 1000001", x.transfer(0, 1, 0, 1, 1000001), BAD_VALUE);
        due("count(6)", x.count(6), 0);
        for (int i = 1; i <= 8; i++) {
            due("transfer " + i, x.transfer(i % 2, 1 - i % 2, i == 1 ? 0 : 9999, i == 1 ? 10000 : 1,
                i == 1 ? 1000000 : 0), i);
        }
        due("transfer 9", x.transfer(0, 1, 0, 1, 0), TOO_MANY);
        due("BAD_VALUE comes before TOO_MANY", x.transfer(0, 1, 0, 0, 0), BAD_VALUE);
        due("NO_SUCH comes before TOO_MANY", x.transfer(0, 0, 0, 1, 0), NO_SUCH);
        due("count(6)", x.count(6), 8);
        due("nothing is done yet", x.count(2), 0);
    }

    private void drops() {
        check.part("promise 10");
        RangeDeeds x = withOwners(2);
        due("none", x.drop(), NOT_POSSIBLE);
        x.transfer(0, 1, 0, 5, 7);
        x.transfer(1, 0, 1, 6, 8);
        due("drop()", x.drop(), 1);
        due("the last one is dropped", x.ofTransfer(0, 2), 0);
        due("ofTransfer(1, 0)", x.ofTransfer(1, 0), NO_SUCH);
        due("drop()", x.drop(), 0);
        due("none", x.drop(), NOT_POSSIBLE);
        due("a transfer again", x.transfer(1, 0, 3, 4, 9), 1);
        due("ofTransfer(0, 4)", x.ofTransfer(0, 4), 9);
    }

    private void closes() {
        check.part("promise 11");
        RangeDeeds x = withOwners(2);
        due("none", x.close(), NOT_POSSIBLE);
        x.give(0, 100, 50);
        x.transfer(0, 1, 110, 10, 300);
        due("close()", x.close(), 1);
        due("count(2)", x.count(2), 3);
        due("ownerAt(110)", x.ownerAt(110), 1);
        due("ownerAt(120)", x.ownerAt(120), 0);
        due("money(0)", x.money(0), 1300);
        due("money(1)", x.money(1), 695);
        due("count(6)", x.count(6), 0);
        due("count(7)", x.count(7), 1);
        due("count(8)", x.count(8), 5);
        due("none", x.close(), NOT_POSSIBLE);
        x.set(2, 0);
        x.transfer(1, 0, 110, 10, 0);
        due("without price and fee", x.close(), 1);
        due("count(2)", x.count(2), 1);
        due("count(7)", x.count(7), 2);
        due("count(8)", x.count(8), 5);
    }

    private void closeOneAfterTheOther() {
        check.part("promise 11, in a row");
        RangeDeeds x = withOwners(3);
        x.owner(0);
        x.give(0, 0, 20);
        x.transfer(0, 3, 0, 10, 0);
        due("cannot pay the fee", x.close(), NOT_POSSIBLE);
        x.drop();
        x.pay(3, 5);
        x.transfer(0, 3, 0, 10, 0);
        x.transfer(3, 2, 0, 10, 100);
        x.transfer(0, 3, 10, 10, 95);
        due("money that comes on the way", x.close(), 3);
        due("money(0)", x.money(0), 1095);
        due("money(2)", x.money(2), 895);
        due("money(3)", x.money(3), 0);
        due("count(8)", x.count(8), 15);
        due("ofRange(0, 0)", x.ofRange(0, 0), 2);
        due("ofRange(1, 0)", x.ofRange(1, 0), 3);
    }

    private void closeFails() {
        check.part("promise 11, a deal that fails");
        RangeDeeds x = withOwners(3);
        x.give(0, 0, 20);
        x.transfer(0, 1, 0, 10, 995);
        x.transfer(0, 1, 10, 10, 0);
        due("failing()", x.failing(), 1);
        due("close()", x.close(), NOT_POSSIBLE);
        due("the street", x.ofRange(0, 2), 20);
        due("money(0)", x.money(0), 1000);
        due("money(1)", x.money(1), 1000);
        due("the deal stays", x.count(6), 2);
        due("count(8)", x.count(8), 0);
        due("count(7)", x.count(7), 0);
        due("drop()", x.drop(), 1);
        due("changed and closed again", x.close(), 1);
        due("money(1)", x.money(1), 0);
        x.transfer(0, 1, 9, 2, 0);
        due("a meter is of another", x.close(), NOT_POSSIBLE);
        x.drop();
        x.transfer(0, 2, 19, 2, 0);
        due("a meter is of none", x.close(), NOT_POSSIBLE);
        x.drop();
        x.set(4, 5);
        x.transfer(0, 2, 10, 6, 0);
        due("more than MOST", x.close(), NOT_POSSIBLE);
        x.drop();
        x.transfer(0, 2, 10, 5, 996);
        due("price and fee above the money", x.close(), NOT_POSSIBLE);
        x.drop();
        x.transfer(0, 2, 10, 5, 995);
        due("price and fee are the money", x.close(), 1);
    }

    private void closeShortest() {
        check.part("promise 11, SHORTEST");
        RangeDeeds x = withOwners(3);
        x.set(3, 5);
        x.give(0, 0, 20);
        x.transfer(0, 1, 0, 4, 0);
        due("the second owner's", x.failing(), 0);
        x.drop();
        x.transfer(0, 1, 0, 16, 0);
        due("the first owner's", x.failing(), 0);
        x.drop();
        x.transfer(0, 1, 4, 16, 0);
        x.transfer(0, 1, 0, 4, 0);
        due("too short on the way", x.failing(), 0);
        x.drop();
        x.drop();
        x.transfer(0, 1, 0, 15, 0);
        due("just long enough", x.failing(), NONE);
        x.give(1, 500, 4);
        due("one far away is too short", x.failing(), 0);
        x.free(500, 4);
        x.give(2, 500, 4);
        due("one of a third owner is no matter", x.failing(), NONE);
        x.give(0, 600, 4);
        due("one of the first owner is", x.failing(), 0);
        x.drop();
        x.transfer(0, 1, 600, 4, 0);
        x.give(1, 604, 3);
        due("one that goes is not", x.failing(), NONE);
        due("close()", x.close(), 1);
        due("ofRange(2, 2)", x.ofRange(2, 2), 7);
    }

    private void closeTooManyRanges() {
        check.part("promise 11, 40 ranges");
        RangeDeeds x = withOwners(2);
        x.give(0, 0, 10);
        for (int i = 0; i < 38; i++) {
            x.give(1, 20 + 2 * i, 1);
        }
        x.transfer(0, 1, 0, 3, 0);
        due("40 ranges", x.failing(), NONE);
        x.transfer(0, 1, 4, 3, 0);
        due("42 ranges", x.failing(), 1);
        x.transfer(0, 1, 3, 7, 0);
        due("too many on the way", x.close(), NOT_POSSIBLE);
        x.drop();
        x.drop();
        x.transfer(0, 1, 3, 4, 0);
        due("two, one after the other", x.close(), 2);
        due("count(2)", x.count(2), 40);
        x.transfer(0, 1, 9, 1, 0);
        due("41 ranges", x.failing(), 0);
        due("close()", x.close(), NOT_POSSIBLE);
    }

    private void failings() {
        check.part("promise 12");
        RangeDeeds x = withOwners(2);
        due("no transfers", x.failing(), NONE);
        x.give(0, 0, 20);
        x.transfer(0, 1, 0, 10, 0);
        x.transfer(0, 1, 0, 5, 0);
        x.transfer(0, 1, 30, 5, 0);
        int changes = x.count(11);
        due("the first that fails", x.failing(), 1);
        due("nothing changes", x.count(11), changes);
        due("ofRange(0, 2)", x.ofRange(0, 2), 20);
        due("count(6)", x.count(6), 3);
        x.drop();
        x.drop();
        due("none", x.failing(), NONE);
        due("money(1)", x.money(1), 1000);
        x.free(5, 1);
        due("as the street is now", x.failing(), 0);
    }

    private void daysAndTax() {
        check.part("promise 13");
        RangeDeeds x = withOwners(2);
        x.give(0, 0, 10);
        x.give(0, 20, 11);
        x.give(1, 100, 10);
        due("days(1)", x.days(1), 1);
        due("two ranges, and 21 meters: three tens", x.money(0), 1000 - 50 - 30);
        due("one range, and one ten", x.money(1), 965);
        due("ofOwner(0, 4)", x.ofOwner(0, 4), 80);
        due("count(9)", x.count(9), 115);
        due("days(3)", x.days(3), 4);
        due("money(0)", x.money(0), 1000 - 320);
        due("days(60)", new RangeDeeds().days(60), 60);
        RangeDeeds free = withOwners(1);
        free.days(60);
        due("no ranges, no tax", free.money(0), 1000);
        free.set(0, 0);
        free.set(1, 0);
        free.give(0, 0, 10000);
        free.days(60);
        due("no tax", free.money(0), 1000);
        due("count(0)", free.count(0), 120);
    }

    private void daysLoseRanges() {
        check.part("promise 13, ranges that are lost");
        RangeDeeds x = new RangeDeeds();
        x.owner(100);
        x.give(0, 0, 15);
        x.give(0, 20, 12);
        x.give(0, 40, 12);
        x.give(0, 60, 20);
        due("tax of a day", x.ofOwner(0, 3), 160);
        due("days(1)", x.days(1), 1);
        due("the last of the shortest goes, then the other", x.count(2), 2);
        due("ownerAt(20)", x.ownerAt(20), NONE);
        due("ownerAt(0)", x.ownerAt(0), 0);
        due("what is left is paid", x.money(0), 10);
        due("ofOwner(0, 4)", x.ofOwner(0, 4), 90);
        due("ofOwner(0, 5)", x.ofOwner(0, 5), 24);
        due("the next day all goes", x.days(1), 2);
        due("count(2)", x.count(2), 0);
        due("money(0)", x.money(0), 10);
        due("count(9)", x.count(9), 90);
        due("ofOwner(0, 5)", x.ofOwner(0, 5), 59);
        RangeDeeds y = new RangeDeeds();
        y.owner(34);
        y.owner(35);
        y.give(0, 0, 5);
        y.give(0, 10, 5);
        y.give(1, 30, 5);
        y.days(1);
        due("of several the last one, then the first", y.count(2), 1);
        due("just enough", y.ofOwner(1, 0), 1);
        due("money(1)", y.money(1), 0);
        due("two ranges of 5 share a ten", y.money(0), 34);
        RangeDeeds z = new RangeDeeds();
        z.owner(35);
        z.give(0, 0, 5);
        z.give(0, 10, 5);
        z.days(1);
        due("LENGTH_TAX is no less without the second", z.ofOwner(0, 4), 35);
        due("the last one went", z.ofRange(0, 1), 0);
        due("ofOwner(0, 5)", z.ofOwner(0, 5), 5);
        othersKeepTheirRanges();
    }

    private void othersKeepTheirRanges() {
        RangeDeeds x = withOwners(1);
        x.owner(60);
        x.owner(1000);
        x.give(0, 0, 5);
        x.give(1, 10, 30);
        x.give(2, 40, 7);
        x.give(1, 50, 8);
        x.give(0, 60, 9);
        x.give(1, 70, 31);
        x.days(1);
        due("all three are lost", x.count(2), 3);
        int[][] due = {{0, 0, 5}, {2, 40, 7}, {0, 60, 9}};
        for (int i = 0; i < due.length; i++) {
            for (int what = 0; what < 3; what++) {
                due("ofRange(" + i + ", " + what + ")", x.ofRange(i, what), due[i][what]);
            }
        }
        due("nothing is left", x.ofOwner(1, 0), 0);
        due("ofOwner(1, 5)", x.ofOwner(1, 5), 69);
        due("undo()", x.undo(), 5);
        due("what was lost is undone, too", x.ofOwner(1, 5), 0);
        due("what was paid is undone, too", x.ofOwner(0, 4), 0);
        due("count(9)", x.count(9), 0);
        due("ofOwner(1, 0)", x.ofOwner(1, 0), 3);
        x.pay(1, 5);
        x.days(1);
        due("the longest is kept", x.ofRange(3, 1), 70);
        due("money(1)", x.money(1), 0);
    }

    private void dayErrors() {
        check.part("promise 13, errors");
        RangeDeeds x = new RangeDeeds();
        due("days(0)", x.days(0), BAD_VALUE);
        due("days(61)", x.days(61), BAD_VALUE);
        due("days(-1)", x.days(-1), BAD_VALUE);
        due("days(greatest)", x.days(GREATEST), BAD_VALUE);
        due("count(0)", x.count(0), 0);
        due("days(60)", x.days(60), 60);
    }

    // ---- what there is

    private void ranges() {
        check.part("promise 14");
        RangeDeeds x = withOwners(2);
        x.give(1, 30, 7);
        x.give(0, 10, 5);
        int[][] due = {{0, 10, 5}, {1, 30, 7}};
        for (int i = 0; i < 2; i++) {
            for (int what = 0; what < 3; what++) {
                due("ofRange(" + i + ", " + what + ")", x.ofRange(i, what), due[i][what]);
            }
        }
        due("what -1", x.ofRange(0, -1), BAD_VALUE);
        due("what 3", x.ofRange(0, 3), BAD_VALUE);
        due("range 2", x.ofRange(2, 0), NO_SUCH);
        due("range -1", x.ofRange(-1, 9), NO_SUCH);
        due("range greatest", x.ofRange(GREATEST, 0), NO_SUCH);
        due("range least", x.ofRange(LEAST, 0), NO_SUCH);
    }

    private void ownerNumbers() {
        check.part("promise 15");
        RangeDeeds x = new RangeDeeds();
        x.owner(180);
        x.owner(0);
        x.give(0, 0, 11);
        x.give(0, 20, 30);
        x.give(0, 60, 9);
        int[] before = {3, 50, 30, 125, 0, 0};
        for (int what = 0; what < 6; what++) {
            due("ofOwner(0, " + what + ")", x.ofOwner(0, what), before[what]);
            due("ofOwner(1, " + what + ")", x.ofOwner(1, what), 0);
        }
        x.days(2);
        due("money(0)", x.money(0), 0);
        due("tax that was given back is not paid", x.ofOwner(0, 4), 180);
        x.pay(0, 60);
        x.days(1);
        int[] then = {1, 30, 30, 55, 235, 20};
        due("money(0)", x.money(0), 5);
        for (int what = 0; what < 6; what++) {
            due("ofOwner(0, " + what + ")", x.ofOwner(0, what), then[what]);
        }
        due("what -1", x.ofOwner(0, -1), BAD_VALUE);
        due("what 6", x.ofOwner(0, 6), BAD_VALUE);
        due("owner 2", x.ofOwner(2, 6), NO_SUCH);
        due("owner -1", x.ofOwner(-1, 0), NO_SUCH);
    }

    private void moneys() {
        check.part("promise 16");
        RangeDeeds x = withOwners(1);
        due("money(0)", x.money(0), 1000);
        due("money(1)", x.money(1), NO_SUCH);
        due("money(-1)", x.money(-1), NO_SUCH);
        due("money(least)", x.money(LEAST), NO_SUCH);
        due("money(greatest)", x.money(GREATEST), NO_SUCH);
    }

    private void meters() {
        check.part("promise 17");
        RangeDeeds x = withOwners(2);
        x.give(1, 0, 3);
        x.give(0, 9998, 2);
        due("ownerAt(0)", x.ownerAt(0), 1);
        due("ownerAt(2)", x.ownerAt(2), 1);
        due("ownerAt(3)", x.ownerAt(3), NONE);
        due("ownerAt(9997)", x.ownerAt(9997), NONE);
        due("ownerAt(9998)", x.ownerAt(9998), 0);
        due("ownerAt(9999)", x.ownerAt(9999), 0);
        due("ownerAt(10000)", x.ownerAt(10000), BAD_VALUE);
        due("ownerAt(-1)", x.ownerAt(-1), BAD_VALUE);
        due("ownerAt(least)", x.ownerAt(LEAST), BAD_VALUE);
    }

    private void transferNumbers() {
        check.part("promise 18");
        RangeDeeds x = withOwners(3);
        x.transfer(0, 1, 5, 6, 7);
        x.transfer(2, 0, 15, 16, 17);
        int[][] due = {{0, 1, 5, 6, 7}, {2, 0, 15, 16, 17}};
        for (int i = 0; i < 2; i++) {
            for (int what = 0; what < 5; what++) {
                due("ofTransfer(" + i + ", " + what + ")", x.ofTransfer(i, what), due[i][what]);
            }
        }
        due("what -1", x.ofTransfer(0, -1), BAD_VALUE);
        due("what 5", x.ofTransfer(0, 5), BAD_VALUE);
        due("transfer 2", x.ofTransfer(2, 5), NO_SUCH);
        due("transfer -1", x.ofTransfer(-1, 0), NO_SUCH);
        due("transfer greatest", x.ofTransfer(GREATEST, 0), NO_SUCH);
    }

    private void counts() {
        check.part("promise 19");
        RangeDeeds x = withOwners(2);
        x.set(0, 20);
        x.set(1, 30);
        x.set(2, 7);
        x.set(3, 2);
        x.set(4, 9000);
        x.give(0, 10, 20);
        x.give(1, 30, 5);
        x.give(1, 50, 5);
        x.transfer(0, 1, 10, 10, 3);
        x.close();
        x.transfer(1, 0, 10, 10, 3);
        x.days(2);
        putText(x, "d1;");
        int[] due = {2, 2, 4, 30, 3, 9945, 1, 1, 7, 2 * (30 + 20 + 90 + 40), 3, 6, 20, 30, 7, 2, 9000};
        for (int what = 0; what < due.length; what++) {
            due("count(" + what + ")", x.count(what), due[what]);
        }
        due("count(-1)", x.count(-1), BAD_VALUE);
        due("count(17)", x.count(17), BAD_VALUE);
        due("count(least)", x.count(LEAST), BAD_VALUE);
        due("count(greatest)", x.count(GREATEST), BAD_VALUE);
        x.give(0, 0, 9000 - x.ofOwner(0, 1));
        x.give(1, 0, 10);
        x.set(4, 10000);
        x.give(0, 0, 10000);
        due("no holes", x.count(4), 0);
        due("no longest hole", x.count(5), 0);
        due("all meters", x.count(3), 10000);
        x.free(0, 3);
        x.free(9990, 10);
        due("holes at both ends", x.count(4), 2);
        due("the longest one", x.count(5), 10);
        x.free(100, 1);
        due("a hole of one meter", x.count(4), 3);
        x.give(1, 101, 1);
        x.give(0, 0, 100);
        due("two owners side by side make no hole", x.count(4), 2);
    }

    private void shares() {
        check.part("promise 20");
        RangeDeeds x = withOwners(3);
        due("no meters", x.shareBits(0), 0);
        due("owner 3", x.shareBits(3), NO_SUCH);
        due("owner -1", x.shareBits(-1), NO_SUCH);
        x.give(0, 0, 30);
        due("all", x.shareBits(0), Float.floatToIntBits(1f));
        due("none", x.shareBits(1), 0);
        x.give(1, 100, 60);
        due("a third", x.shareBits(0), Float.floatToIntBits(1f / 3f));
        due("two thirds", x.shareBits(1), Float.floatToIntBits(2f / 3f));
    }

    /** Many quotients; each object has room for 512 calls. */
    private void allShares() {
        check.part("promise 20, many quotients");
        for (int whole : new int[] {1, 3, 7, 97, 1000, 4096, 6561, 9999, 10000}) {
            for (int from = 1; from <= whole; from += 250) {
                RangeDeeds x = withOwners(2);
                x.give(1, 0, whole);
                for (int part = from; part < from + 250 && part <= whole; part++) {
                    x.give(0, 0, part);
                    due("share of " + part + " in " + whole, x.shareBits(0),
                        Float.floatToIntBits((float) ((double) part / whole)));
                }
            }
        }
    }

    // ---- what if

    private void holes() {
        check.part("promise 21");
        RangeDeeds x = withOwners(1);
        due("the whole street", x.hole(10000, 0), 0);
        x.give(0, 20, 10);
        x.give(0, 40, 10);
        x.give(0, 60, 10);
        x.give(0, 75, 10);
        x.give(0, 90, 9880);
        int[][] due = {{1, 0, 70, 9970}, {5, 0, 70, 9970}, {6, 0, 30, 9970}, {10, 0, 30, 9970}, {11, 0, 0, 9970},
            {20, 0, 0, 9970}, {21, 9970, 9970, 9970}, {30, 9970, 9970, 9970}};
        for (int[] row : due) {
            for (int how = 0; how < 3; how++) {
                due("hole(" + row[0] + ", " + how + ")", x.hole(row[0], how), row[1 + how]);
            }
        }
        x.give(0, 88, 2);
        due("the shortest one", x.hole(1, 1), 85);
        due("the shortest one that is long enough", x.hole(4, 1), 70);
        due("none is long enough", x.hole(31, 0), NONE);
        due("none is long enough", x.hole(10000, 2), NONE);
        x.give(0, 9990, 10);
        due("of several longest ones the first", x.hole(1, 2), 0);
        due("length 0", x.hole(0, 0), BAD_VALUE);
        due("length 10001", x.hole(10001, 0), BAD_VALUE);
        due("how -1", x.hole(1, -1), BAD_VALUE);
        due("how 3", x.hole(1, 3), BAD_VALUE);
        x.give(0, 0, 10000);
        due("no hole", x.hole(1, 1), NONE);
    }

    private void wouldBes() {
        check.part("promise 22");
        RangeDeeds x = withFortyRanges();
        int changes = x.count(11);
        due("two more", x.wouldBe(1, 100, 1), 41);
        due("fewer", x.wouldBe(0, 0, 100), 1);
        due("the same", x.wouldBe(0, 0, 1), 40);
        x.give(0, 78, 3);
        due("in the middle", x.wouldBe(1, 79, 1), 42);
        x.set(4, 1);
        due("MOST is no matter", x.wouldBe(0, 0, 10000), 1);
        due("no such owner", x.wouldBe(3, -1, 0), NO_SUCH);
        due("owner -1", x.wouldBe(-1, 0, 1), NO_SUCH);
        due("first -1", x.wouldBe(0, -1, 1), BAD_VALUE);
        due("first 10000", x.wouldBe(0, 10000, 1), BAD_VALUE);
        due("length 0", x.wouldBe(0, 0, 0), BAD_VALUE);
        due("over the end", x.wouldBe(0, 9999, 2), BAD_VALUE);
        due("nothing changes", x.count(2), 40);
        due("nothing changes", x.count(11), changes);
    }

    private void quietests() {
        check.part("promise 23");
        RangeDeeds x = withOwners(3);
        due("quietest(10000, 0)", x.quietest(10000, 0), 0);
        due("quietest(10000, 1)", x.quietest(10000, 1), 0);
        x.give(0, 0, 10);
        x.give(1, 10, 10);
        x.give(0, 20, 10);
        x.give(2, 100, 9900);
        due("a hole", x.quietest(5, 0), 30);
        due("a hole", x.quietest(70, 0), 30);
        due("no owners", x.quietest(70, 1), 0);
        due("one owner, twice", x.quietest(80, 0), 20);
        due("one owner", x.quietest(80, 1), 1);
        due("one owner", x.quietest(81, 0), 30);
        due("one owner", x.quietest(9970, 0), 30);
        due("two owners", x.quietest(9980, 0), 20);
        due("two owners", x.quietest(9980, 1), 2);
        due("two owners, one of them twice", x.quietest(9990, 1), 3);
        due("all", x.quietest(10000, 0), 0);
        due("all", x.quietest(10000, 1), 3);
        due("length 0", x.quietest(0, 0), BAD_VALUE);
        due("length 10001", x.quietest(10001, 0), BAD_VALUE);
        due("what -1", x.quietest(1, -1), BAD_VALUE);
        due("what 2", x.quietest(1, 2), BAD_VALUE);
        x.give(0, 0, 10000);
        x.give(1, 0, 1);
        due("one owner everywhere", x.quietest(1, 0), 0);
        due("behind the first", x.quietest(2, 0), 1);
    }

    private void gapsOfOwners() {
        check.part("promise 24");
        RangeDeeds x = withOwners(2);
        due("no ranges", x.gaps(0), 0);
        x.give(0, 100, 10);
        due("one range", x.gaps(0), 0);
        x.give(0, 120, 10);
        due("two ranges", x.gaps(0), 10);
        x.give(1, 113, 2);
        x.give(0, 200, 1);
        due("others or none", x.gaps(0), 80);
        due("one range", x.gaps(1), 0);
        due("owner 2", x.gaps(2), NO_SUCH);
        due("owner -1", x.gaps(-1), NO_SUCH);
    }

    private void exchanges() {
        check.part("promise 25");
        RangeDeeds x = withOwners(3);
        due("no ranges", x.exchange(0), NONE);
        x.give(0, 0, 10);
        x.give(1, 10, 10);
        due("no fewer", x.exchange(2), NONE);
        x.give(0, 20, 10);
        x.give(1, 40, 10);
        due("of several pairs the lowest first range", x.exchange(0), 0);
        due("of several pairs the lowest second range", x.exchange(1), 1);
        due("two are joined", x.exchange(2), 3);
        x.undo();
        x.give(0, 40, 10);
        due("three are joined", x.exchange(0), 1);
        due("three are joined", x.exchange(1), 3);
        due("three are joined", x.exchange(2), 2);
        RangeDeeds y = withOwners(3);
        y.give(0, 0, 10);
        y.give(1, 10, 5);
        y.give(0, 15, 10);
        y.give(1, 30, 6);
        y.give(0, 36, 5);
        y.give(1, 41, 6);
        due("the fewest", y.exchange(0), 1);
        due("the fewest", y.exchange(1), 4);
        due("the fewest", y.exchange(2), 2);
        y.give(0, 60, 5);
        due("of several pairs the lowest", y.exchange(1), 4);
        y.give(0, 36, 4);
        y.free(40, 1);
        due("the lowest is of another length now", y.exchange(1), 6);
        due("the lowest is of another length now", y.exchange(2), 5);
        due("what -1", y.exchange(-1), BAD_VALUE);
        due("what 3", y.exchange(3), BAD_VALUE);
        due("nothing changes", y.ofRange(1, 0), 1);
        due("what 3 without ranges", new RangeDeeds().exchange(3), BAD_VALUE);
        pairsOfNeighbours();
    }

    private void pairsOfNeighbours() {
        RangeDeeds x = withOwners(2);
        x.give(1, 0, 7);
        x.give(0, 7, 5);
        x.give(1, 12, 5);
        x.give(0, 17, 9);
        due("neighbours are exchanged", x.exchange(0), 1);
        due("neighbours are exchanged", x.exchange(1), 2);
        due("both joined with what lies beyond", x.exchange(2), 2);
        RangeDeeds y = withOwners(2);
        y.give(0, 0, 5);
        y.give(1, 5, 6);
        y.give(0, 11, 7);
        due("of different lengths", y.exchange(0), NONE);
        y.give(0, 11, 5);
        y.free(16, 2);
        due("of one owner", y.exchange(0), NONE);
        due("of one owner", y.exchange(1), NONE);
        due("of one owner", y.exchange(2), NONE);
        y.give(1, 30, 6);
        due("apart, and none is joined", y.exchange(2), NONE);
        y.give(0, 60, 6);
        due("the first is joined on both sides", y.exchange(0), 1);
        due("the first is joined on both sides", y.exchange(1), 4);
        due("the first is joined on both sides", y.exchange(2), 3);
        y.free(0, 5);
        y.free(11, 5);
        due("ranges that are no longer there", y.exchange(2), NONE);
    }

    private void losses() {
        check.part("promise 26");
        RangeDeeds x = new RangeDeeds();
        x.owner(350);
        x.owner(1000000);
        x.owner(0);
        due("no ranges", x.losesIn(0), NONE);
        x.give(0, 0, 10);
        due("35 cents a day", x.losesIn(0), 11);
        due("nothing changes", x.count(0), 0);
        x.days(10);
        due("money(0)", x.money(0), 0);
        due("tomorrow", x.losesIn(0), 1);
        x.give(2, 50, 1);
        due("at once", x.losesIn(2), 1);
        x.set(0, 0);
        x.set(1, 0);
        due("no tax", x.losesIn(0), NONE);
        x.set(1, 100);
        x.pay(0, 29999);
        due("in 300 days", x.losesIn(0), 300);
        x.pay(0, 1);
        due("not in 300 days", x.losesIn(0), NONE);
        due("owner 3", x.losesIn(3), NO_SUCH);
        due("owner -1", x.losesIn(-1), NO_SUCH);
    }

    // ---- texts

    private void puts() {
        check.part("promise 27");
        RangeDeeds x = new RangeDeeds();
        due("put(A)", x.put('A'), 1);
        due("put(8)", x.put(number("!~!~!~!~")), 9);
        due("put(2)", x.put(number("d1")), 11);
        due("put(0)", x.put(0), BAD_VALUE);
        due("code 32", x.put(32), BAD_VALUE);
        due("code 33", x.put(33), 12);
        due("code 126", x.put(126), 13);
        due("code 127", x.put(127), BAD_VALUE);
        due("code 255", x.put(255), BAD_VALUE);
        due("code 32 in the middle", x.put(number("A B")), BAD_VALUE);
        due("code 127 in the middle", x.put(number("A\u007fB")), BAD_VALUE);
        due("a 0 within", x.put(65L << 16 | 65), BAD_VALUE);
        due("a 0 behind", x.put(65L << 8), BAD_VALUE);
        due("the highest bit", x.put(LEAST * 4294967296L), BAD_VALUE);
        due("the highest bit and a character", x.put(LEAST * 4294967296L | 65), BAD_VALUE);
        due("-1", x.put(-1), BAD_VALUE);
        due("count(10)", x.count(10), 13);
        due("no change", x.count(11), 0);
        RangeDeeds full = new RangeDeeds();
        for (int i = 1; i <= 9; i++) {
            due("put", full.put(number("12345678")), 8 * i);
        }
        due("put", full.put(number("1234567")), 79);
        due("81 characters", full.put(number("12")), TOO_MANY);
        due("BAD_VALUE comes before TOO_MANY", full.put(number("1 ")), BAD_VALUE);
        due("80 characters", full.put(number("1")), 80);
        due("81 characters", full.put(number("1")), TOO_MANY);
        due("87 characters", full.put(number("12345678")), TOO_MANY);
        due("count(10)", full.count(10), 80);
        RangeDeeds order = withText(1, "+A12:345");
        order.carryOut();
        due("the first character is the highest", order.ofRange(0, 1), 12);
        due("the last one is the lowest", order.ofRange(0, 2), 345);
    }

    private void wipes() {
        check.part("promise 28");
        RangeDeeds x = withText(0, "d1;d2");
        due("wipe()", x.wipe(), 5);
        due("count(10)", x.count(10), 0);
        due("wipe()", x.wipe(), 0);
        due("put", x.put(number("d3")), 2);
        due("fault()", x.fault(), NONE);
        due("carryOut()", x.carryOut(), 1);
        due("count(0)", x.count(0), 3);
    }

    private void faultDue(String text, int due) {
        due("fault of \"" + text + "\"", withText(0, text).fault(), due);
    }

    private void faults() {
        check.part("promise 29");
        String[] sound = {"+A0:0", "+J9999:9999", "-0:1", "-9999:1000", "gA1", "gJ9999", "pC0", "d0", "d9999",
            "d1;d2;d3", "+A1:2;-3:4;gB5;pC6;d7"};
        for (String text : sound) {
            faultDue(text, NONE);
        }
        String[] tooShort = {"", "+", "+A", "+A1", "+A1:", "-", "-1", "-1:", "g", "gA", "p", "pA", "d", "d1;",
            "d1;+A1:2;", "d1;g"};
        for (String text : tooShort) {
            faultDue(text, text.length());
        }
        String[] wrongAtTheEnd = {"x", "A", "1", ";", ":", "+1", "+K", "+a", "+@", "+A:", "+A1;", "+A1:;", "+A1:2:",
            "+A1:2A", "-A", "-:", "-1;", "-1:-", "g1", "gA:", "gA1:", "pK", "pA-", "dA", "d-", "d1:", "d1d", "d1;;",
            "d1;1", "d00", "d01", "+A01", "+A1:00", "d12345", "d99990", "d10000", "+A10000", "-12345", "-1:12345",
            "gA00", "pJ99999", "d/", "d:", "D", "P", "G", "d1,"};
        for (String text : wrongAtTheEnd) {
            faultDue(text, text.length() - 1);
            faultDue(text + "d1", text.length() - 1);
        }
        RangeDeeds x = withText(0, "d1;d");
        due("no change", x.fault(), 4);
        due("count(11)", x.count(11), 0);
        due("count(10)", x.count(10), 4);
        StringBuilder longest = new StringBuilder("+A1234:1");
        while (longest.length() < 80) {
            longest.append(";d1");
        }
        faultDue(longest.toString(), NONE);
        faultDue(longest.substring(0, 77) + ";pA", 80);
        faultDue(longest.substring(0, 79) + "x", 79);
    }

    private void carriesOut() {
        check.part("promise 30");
        RangeDeeds x = withText(3, "+A100:50;-110:5;gB7;pC9;d2");
        due("carryOut()", x.carryOut(), 5);
        due("count(10)", x.count(10), 0);
        due("give and free", x.ofRange(1, 2), 10);
        due("ofRange(2, 1)", x.ofRange(2, 1), 115);
        due("grab", x.ownerAt(6), 1);
        due("pay", x.money(2), 1009);
        due("days", x.count(0), 2);
        due("one change", x.count(11), 4);
        due("undo()", x.undo(), 3);
        due("all of it is undone", x.count(2), 0);
        due("count(0)", x.count(0), 0);
        due("money(2)", x.money(2), 1000);
        due("the pad is not brought back", x.count(10), 0);
        due("empty", x.carryOut(), BAD_TEXT);
        putText(x, "d1;x");
        due("with a fault", x.carryOut(), BAD_TEXT);
        due("the pad stays", x.count(10), 4);
        due("nothing is carried out", x.count(0), 0);
        due("no change", x.count(11), 3);
        RangeDeeds y = withText(10, "pJ5;+J9999:1");
        due("carryOut()", y.carryOut(), 2);
        due("the last owner", y.ownerAt(9999), 9);
    }

    private void carriesOutUpToAnError() {
        check.part("promise 30, errors");
        RangeDeeds x = withText(1, "d5;pB5;d7");
        due("no such owner", x.carryOut(), 1);
        due("count(0)", x.count(0), 5);
        due("count(10)", x.count(10), 0);
        String[] failing = {"d0", "d61", "-5:0", "-9999:2", "+A0:0", "+B0:1", "gA0", "gA9999", "gB1", "pB1"};
        for (String entry : failing) {
            RangeDeeds y = withText(1, "+A0:9;" + entry + ";d1");
            due("up to " + entry, y.carryOut(), 1);
            due("nothing behind " + entry, y.count(0), 0);
            RangeDeeds z = withText(1, entry);
            due("count(11)", z.count(11), 1);
            due("none of " + entry, z.carryOut(), entry.equals("gA9999") ? 1 : 0);
            due("a change all the same", z.count(11), 2);
            due("the pad is empty", z.count(10), 0);
        }
        RangeDeeds poor = new RangeDeeds();
        poor.owner(0);
        putText(poor, "pA0;d60;d60");
        due("an answer of 0 or 1 is no error", poor.carryOut(), 3);
        due("count(0)", poor.count(0), 120);
    }

    // ---- undo, saving

    private void undos() {
        check.part("promise 31");
        RangeDeeds first = new RangeDeeds();
        first.owner(5);
        due("undo() of the first change", first.undo(), 0);
        due("count(1)", first.count(1), 0);
        due("the number is free again", first.owner(6), 0);
        due("money(0)", first.money(0), 6);
        RangeDeeds x = new RangeDeeds();
        for (int i = 1; i <= 9; i++) {
            x.days(i);
            due("count(11)", x.count(11), Math.min(i, 6));
        }
        int[] days = {36, 28, 21, 15, 10, 6};
        for (int i = 0; i < 6; i++) {
            due("undo()", x.undo(), 5 - i);
            due("count(0)", x.count(0), days[i]);
            due("count(11)", x.count(11), 5 - i);
        }
        due("no more", x.undo(), NOT_POSSIBLE);
        due("count(0)", x.count(0), 6);
        due("days(1)", x.days(1), 7);
        due("undo()", x.undo(), 0);
        due("count(0)", x.count(0), 6);
        for (int i = 0; i < 20; i++) {
            x.days(1);
            x.days(1);
            x.undo();
        }
        due("count(0)", x.count(0), 26);
        due("undo()", x.undo(), 4);
        due("undo()", x.undo(), 3);
        due("count(0)", x.count(0), 24);
    }

    private void undoOfEachChange() {
        check.part("promise 31, each change");
        for (int change = 0; change < 14; change++) {
            RangeDeeds x = withOwners(3);
            x.give(0, 0, 20);
            x.give(1, 20, 20);
            x.transfer(0, 1, 0, 10, 4);
            x.save(0);
            putText(x, "d1;d1");
            long[] before = picture(x);
            int answer = oneChange(x, change);
            check.holds("change " + change + " is no error", answer >= 0);
            due("change " + change + " is recorded", x.count(11), 6);
            due("undo of change " + change, x.undo(), 5);
            long[] then = picture(x);
            for (int i = 0; i < before.length; i++) {
                due("number " + i + " after change " + change + " is undone", then[i], before[i]);
            }
        }
    }

    private static int oneChange(RangeDeeds x, int change) {
        switch (change) {
            case 0: return x.set(4, 77);
            case 1: return x.owner(5);
            case 2: return x.pay(1, 5);
            case 3: return x.give(2, 5, 500);
            case 4: return x.free(5, 5);
            case 5: return x.grab(2, 5);
            case 6: return x.inherit(0, 1);
            case 7: return x.transfer(1, 0, 3, 4, 5);
            case 8: return x.drop();
            case 9: return x.close();
            case 10: return x.days(20);
            case 11: return x.restore(0);
            case 12: return x.set(0, 10);
            default: return x.carryOut();
        }
    }

    /** All that undo brings back, without the history. */
    private static long[] picture(RangeDeeds x) {
        long[] picture = new long[17 + 50 * 3 + 10 * 7 + 8 * 5];
        int at = 0;
        for (int what = 0; what < 17; what++) {
            picture[at++] = what == 10 || what == 11 ? 0 : x.count(what);
        }
        for (int i = 0; i < 5; i++) {
            for (int what = 0; what < 3; what++) {
                picture[at++] = x.ofRange(i, what);
            }
        }
        for (int i = 0; i < 4; i++) {
            picture[at++] = x.money(i);
            for (int what = 0; what < 6; what++) {
                picture[at++] = x.ofOwner(i, what);
            }
        }
        for (int i = 0; i < 3; i++) {
            for (int what = 0; what < 5; what++) {
                picture[at++] = x.ofTransfer(i, what);
            }
        }
        return picture;
    }

    private void noChanges() {
        check.part("promise 31, what is no change");
        RangeDeeds x = withOwners(2);
        x.give(0, 0, 20);
        x.save(0);
        x.put(number("x"));
        x.fault();
        x.carryOut();
        x.wipe();
        x.failing();
        x.set(9, 9);
        x.owner(-1);
        x.pay(7, 7);
        x.give(7, 0, 1);
        x.free(0, 0);
        x.grab(0, 0);
        x.inherit(0, 0);
        x.transfer(0, 0, 0, 1, 0);
        x.drop();
        x.close();
        x.days(0);
        x.restore(1);
        x.restore(2);
        due("only three changes", x.count(11), 3);
        x.set(2, 5);
        x.pay(0, 0);
        x.give(0, 0, 20);
        due("changes without a difference", x.count(11), 6);
        due("undo()", x.undo(), 5);
        due("the slot stays", x.restore(0), 0);
        x.put(number("d1"));
        x.undo();
        due("the pad stays", x.count(10), 2);
    }

    private void savesAndRestores() {
        check.part("promises 32 and 33");
        RangeDeeds x = withOwners(2);
        due("nothing saved", x.restore(0), NOT_POSSIBLE);
        x.give(0, 0, 20);
        x.transfer(0, 1, 0, 5, 6);
        x.days(3);
        int changes = x.count(11);
        due("save(0)", x.save(0), 3);
        due("no change", x.count(11), changes);
        due("the other slot", x.restore(1), NOT_POSSIBLE);
        x.drop();
        x.set(2, 9);
        x.free(0, 10000);
        due("days(4)", x.days(4), 7);
        due("save(1)", x.save(1), 7);
        x.put(number("d1"));
        due("restore(0)", x.restore(0), 3);
        due("the street", x.ofRange(0, 2), 20);
        due("the deal", x.ofTransfer(0, 4), 6);
        due("the settings", x.count(14), 5);
        due("the day", x.count(0), 3);
        due("the tax", x.count(9), 135);
        due("not the pad", x.count(10), 2);
        due("a change", x.count(11), 6);
        due("undo()", x.undo(), 5);
        due("count(0)", x.count(0), 7);
        due("restore(1)", x.restore(1), 7);
        due("restore(0) again", x.restore(0), 3);
        x.days(1);
        due("save(0) again", x.save(0), 4);
        x.undo();
        due("the slot is not undone", x.restore(0), 4);
        due("save(2)", x.save(2), BAD_VALUE);
        due("save(-1)", x.save(-1), BAD_VALUE);
        due("save(greatest)", x.save(GREATEST), BAD_VALUE);
        due("restore(2)", x.restore(2), BAD_VALUE);
        due("restore(-1)", x.restore(-1), BAD_VALUE);
        due("restore(least)", x.restore(LEAST), BAD_VALUE);
        x.days(1);
        due("the slot keeps what it has", x.restore(0), 4);
    }
}
