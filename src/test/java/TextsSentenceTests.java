/** A test for each sentence of "Texts", and of promises 27 to 30. */
public final class TextsSentenceTests extends SentenceTest {
    private static final long HIGHEST_BIT = Long.MIN_VALUE;

    public static void main(String[] args) throws Exception {
        new TextsSentenceTests().runAll("Texts", "Promise 27", "Promise 28", "Promise 29", "Promise 30");
    }

    /** A pad of so many characters, all of them parts of a sound text or of the beginning of one. */
    private static RangeDeeds withPad(int length) {
        return withText("d1;".repeat(27).substring(0, length));
    }

    // ---- texts

    @Sentence(in = "Texts", says = "The pad is a text of at most 80 characters, a row of entries:")
    void textsAtMost80Characters() {
        RangeDeeds x = withPad(79);
        changesNothing(x, () -> due("81 characters", x.put(signs(";d")), TOO_MANY));
        due("80 characters", x.put('1'), 80);
        changesNothing(x, () -> due("81 characters", x.put('1'), TOO_MANY));
        due("fault()", x.fault(), NONE);
        due("carryOut()", x.carryOut(), 27);
        due("count(0)", x.count(0), 27);
    }

    @Sentence(in = "Texts", says = "text = entry { \";\" entry }")
    void textsAreEntriesWithSemicolonsBetween() {
        faultDue("d1", NONE);
        faultDue("d1;d2", NONE);
        faultDue("d1;d2;d3", NONE);
        faultDue(";d1", 0);
        faultDue("d1;;d2", 3);
        faultDue("d1d2", 2);
        faultDue("d1,d2", 2);
        faultDue("d1;", 3);
        faultDue("d1:2", 2);
    }

    @Sentence(in = "Texts", says = "entry = \"+\" owner number \":\" number")
    void textsEntryOfGive() {
        faultDue("+A1:2", NONE);
        faultDue("+J0:0;+A9999:9999", NONE);
        faultDue("+1:2", 1);
        faultDue("+A:2", 2);
        faultDue("+A1;2", 3);
        faultDue("+A12", 4);
        faultDue("+A1:;", 4);
        faultDue("+A1:2:3", 5);
        faultDue("+AA1:2", 2);
        faultDue("++A1:2", 1);
    }

    @Sentence(in = "Texts", says = "| \"-\" number \":\" number")
    void textsEntryOfFree() {
        faultDue("-1:2", NONE);
        faultDue("-0:0;-9999:9999", NONE);
        faultDue("-A1:2", 1);
        faultDue("-:2", 1);
        faultDue("-1;2", 2);
        faultDue("-12", 3);
        faultDue("-1:;", 3);
        faultDue("-1:2:3", 4);
        faultDue("--1:2", 1);
    }

    @Sentence(in = "Texts", says = "| \"g\" owner number")
    void textsEntryOfGrab() {
        faultDue("gA1", NONE);
        faultDue("gJ9999;gA0", NONE);
        faultDue("g1", 1);
        faultDue("gA;", 2);
        faultDue("gA1:2", 3);
        faultDue("gAg", 2);
        faultDue("GA1", 0);
    }

    @Sentence(in = "Texts", says = "| \"p\" owner number")
    void textsEntryOfPay() {
        faultDue("pA1", NONE);
        faultDue("pJ9999;pA0", NONE);
        faultDue("p1", 1);
        faultDue("pA;", 2);
        faultDue("pA1:2", 3);
        faultDue("PA1", 0);
    }

    @Sentence(in = "Texts", says = "| \"d\" number")
    void textsEntryOfDays() {
        faultDue("d1", NONE);
        faultDue("d0;d9999", NONE);
        faultDue("dA1", 1);
        faultDue("d;", 1);
        faultDue("d-1", 1);
        faultDue("d1:2", 2);
        faultDue("D1", 0);
    }

    @Sentence(in = "Texts", says = "\"+\": give() to an owner, the first meter and the length;")
    void textsPlusGives() {
        RangeDeeds x = withText("+B300:20;+C310:5");
        due("carryOut()", x.carryOut(), 2);
        rangeDue(x, 0, 1, 300, 10);
        rangeDue(x, 1, 2, 310, 5);
        rangeDue(x, 2, 1, 315, 5);
        RangeDeeds y = withText("+A0:0");
        due("a length that is too small", y.carryOut(), 0);
        RangeDeeds z = withText("+A9999:1;+A9999:2");
        due("up to the last meter, but not beyond", z.carryOut(), 1);
    }

    @Sentence(in = "Texts", says = "\"-\": free();")
    void textsMinusFrees() {
        RangeDeeds x = withText("+A0:9999;-300:20");
        due("carryOut()", x.carryOut(), 2);
        rangeDue(x, 0, 0, 0, 300);
        rangeDue(x, 1, 0, 320, 9679);
        RangeDeeds y = withText("-9999:1;-9999:2");
        due("up to the last meter, but not beyond", y.carryOut(), 1);
        RangeDeeds z = withText("-0:0");
        due("a length that is too small", z.carryOut(), 0);
    }

    @Sentence(in = "Texts", says = "\"g\": grab() so many meters for an owner;")
    void textsGGrabs() {
        RangeDeeds x = withText("gA7;gC9");
        due("carryOut()", x.carryOut(), 2);
        rangeDue(x, 0, 0, 0, 7);
        rangeDue(x, 1, 2, 7, 9);
        RangeDeeds y = withText("gA0");
        due("a length that is too small", y.carryOut(), 0);
        RangeDeeds z = withText("gA9999;gA1;gA1");
        due("no hole is left", z.carryOut(), 2);
    }

    @Sentence(in = "Texts", says = "\"p\": pay() so many cents;")
    void textsPPays() {
        RangeDeeds x = withText("pB9999;pA0");
        due("carryOut()", x.carryOut(), 2);
        due("money(0)", x.money(0), 1000);
        due("money(1)", x.money(1), 10999);
        RangeDeeds y = withText("pD1");
        due("no such owner", y.carryOut(), 0);
    }

    @Sentence(in = "Texts", says = "\"d\": so many days().")
    void textsDLetsDaysPass() {
        RangeDeeds x = withText("+A0:10;d2;d60");
        due("carryOut()", x.carryOut(), 3);
        due("count(0)", x.count(0), 62);
        due("the tax of the days is paid", x.money(0), 1000 - 28 * 35);
        due("no day", withText("d0").carryOut(), 0);
        due("too many days", withText("d61").carryOut(), 0);
    }

    @Sentence(in = "Texts", says = "An owner is a letter from A to J.")
    void textsOwnerFromAToJ() {
        faultDue("gA1", NONE);
        faultDue("gJ1", NONE);
        faultDue("g@1", 1);
        faultDue("gK1", 1);
        faultDue("ga1", 1);
        faultDue("gj1", 1);
        faultDue("pK1", 1);
        faultDue("+K1:2", 1);
        RangeDeeds x = withPoorOwners(10);
        putText(x, "gA1;gJ2");
        due("carryOut()", x.carryOut(), 2);
        rangeDue(x, 0, 0, 0, 1);
        rangeDue(x, 1, 9, 1, 2);
        due("a letter without owner is no fault", withText("gD1").fault(), NONE);
    }

    @Sentence(in = "Texts", says = "A number is 0 to 9999, without leading zeros.")
    void textsNumberFrom0To9999() {
        String[] numbers = {"0", "1", "9", "10", "99", "100", "999", "1000", "1001", "9999"};
        for (String number : numbers) {
            faultDue("d" + number, NONE);
            faultDue("-" + number + ":" + number, NONE);
            faultDue("gA" + number, NONE);
        }
        faultDue("d10000", 5);
        faultDue("d99999", 5);
        faultDue("-1:10000", 7);
        faultDue("-10000:1", 5);
        RangeDeeds x = withText("pA9999;pB1;pC10");
        x.carryOut();
        due("money(0)", x.money(0), 10999);
        due("money(1)", x.money(1), 1001);
        due("money(2)", x.money(2), 1010);
    }

    @Sentence(in = "Texts", says = "without leading zeros.")
    void textsNumberWithoutLeadingZeros() {
        faultDue("d0", NONE);
        faultDue("d00", 2);
        faultDue("d01", 2);
        faultDue("d0001", 2);
        faultDue("-00:1", 2);
        faultDue("-0:01", 4);
        faultDue("+A07:1", 3);
        faultDue("gJ09", 3);
        faultDue("d0;d0", NONE);
    }

    @Sentence(in = "Texts", says = "The fault is the index of the first character that cannot stand at its place when"
        + " the text is read from left to right")
    void textsFaultIsTheFirstFromLeftToRight() {
        faultDue("x", 0);
        faultDue("dx", 1);
        faultDue("d1x", 2);
        faultDue("d1;x", 3);
        faultDue("x;x", 0);
        faultDue("d1;gA;gK;x", 5);
        faultDue("/0", 0);
        faultDue("d/", 1);
        faultDue("d:", 1);
        faultDue("d1/", 2);
        faultDue("!", 0);
        faultDue("~", 0);
    }

    @Sentence(in = "Texts", says = "(also of a digit by which a number would be above 9999);")
    void textsFaultOfADigitTooMany() {
        faultDue("d9999", NONE);
        faultDue("d99990", 5);
        faultDue("d10000", 5);
        faultDue("d12345678", 5);
        faultDue("+A10000:1", 6);
        faultDue("+A1:10000", 8);
        faultDue("gA12345;x", 6);
    }

    @Sentence(in = "Texts", says = "if there is none and the text ends too early")
    void textsFaultOfATextThatEndsTooEarly() {
        String[] beginnings = {"+", "+A", "+A1", "+A1:", "-", "-1", "-9999", "-1:", "g", "gA", "p", "pJ", "d", "d1;",
            "d1;+A1"};
        for (String beginning : beginnings) {
            faultDue(beginning, beginning.length());
        }
        faultDue("d1;".repeat(26) + "d", 79);
        faultDue("d1;".repeat(26) + "gA", 80);
    }

    @Sentence(in = "Texts", says = "(also if it is empty), it is the length of the text.")
    void textsFaultOfAnEmptyText() {
        faultDue("", 0);
        RangeDeeds x = withText("d1");
        x.wipe();
        due("a pad that was wiped", x.fault(), 0);
        RangeDeeds y = withText("d1");
        y.carryOut();
        due("a pad that was carried out", y.fault(), 0);
    }

    @Sentence(in = "Texts", says = "The constants: `NO_SUCH = -1, BAD_VALUE = -2, BAD_TEXT = -3, TOO_MANY = -4,"
        + " NOT_POSSIBLE = -5, NONE = -6`: Error codes, and NONE: there is none.")
    void textsConstantsOfErrors() {
        due("NO_SUCH", RangeDeeds.NO_SUCH, -1);
        due("BAD_VALUE", RangeDeeds.BAD_VALUE, -2);
        due("BAD_TEXT", RangeDeeds.BAD_TEXT, -3);
        due("TOO_MANY", RangeDeeds.TOO_MANY, -4);
        due("NOT_POSSIBLE", RangeDeeds.NOT_POSSIBLE, -5);
        due("NONE", RangeDeeds.NONE, -6);
    }

    @Sentence(in = "Texts", says = "`LENGTH_TAX = 0, RANGE_TAX = 1, FEE = 2, SHORTEST = 3, MOST = 4`: Settings.")
    void textsConstantsOfSettings() {
        RangeDeeds x = new RangeDeeds();
        due("LENGTH_TAX", x.set(RangeDeeds.LENGTH_TAX, 1), 10);
        due("RANGE_TAX", x.set(RangeDeeds.RANGE_TAX, 1), 25);
        due("FEE", x.set(RangeDeeds.FEE, 1), 5);
        due("SHORTEST", x.set(RangeDeeds.SHORTEST, 1), 1);
        due("MOST", x.set(RangeDeeds.MOST, 1), 10000);
        due("LENGTH_TAX", RangeDeeds.LENGTH_TAX, 0);
        due("MOST", RangeDeeds.MOST, 4);
    }

    // ---- put

    @Sentence(in = "Promise 27", says = "Appends characters to the pad.")
    void promise27AppendsCharacters() {
        RangeDeeds x = withOwners(1000, 1000, 1000);
        x.put(signs("pC1"));
        x.put(signs("2;d"));
        x.put(signs("3"));
        due("count(10)", x.count(10), 7);
        due("fault()", x.fault(), NONE);
        due("carryOut()", x.carryOut(), 2);
        due("money(2)", x.money(2), 1012);
        due("count(0)", x.count(0), 3);
        due("put is no change", x.count(11), 4);
    }

    @Sentence(in = "Promise 27", says = "They are given as a number: its lowest 8 bits are the last character, the next"
        + " 8 bits the one before, and so on;")
    void promise27TheLowest8BitsAreTheLast() {
        RangeDeeds x = withOwners(1000);
        due("\"d12\"", x.put('d' << 16 | '1' << 8 | '2'), 3);
        x.carryOut();
        due("12 days", x.count(0), 12);
        due("\"+A12:345\"", x.put(0x2b4131323a333435L), 8);
        x.carryOut();
        rangeDue(x, 0, 0, 12, 345);
    }

    @Sentence(in = "Promise 27", says = "8 bits that are 0 mean that there are no more characters,")
    void promise27EightBitsOf0EndTheCharacters() {
        for (int length = 1; length <= 7; length++) {
            RangeDeeds x = new RangeDeeds();
            due(length + " characters", x.put(signs("1234567".substring(0, length))), length);
            due("count(10)", x.count(10), length);
        }
    }

    @Sentence(in = "Promise 27", says = "and everything above them has to be 0, too.")
    void promise27EverythingAboveThemIs0() {
        RangeDeeds x = withText("d1");
        changesNothing(x, () -> {
            due("a character above", x.put((long) 'd' << 16 | '1'), BAD_VALUE);
            due("the lowest bit above", x.put(1L << 16 | '1'), BAD_VALUE);
            due("the highest bit above", x.put(HIGHEST_BIT | '1'), BAD_VALUE);
            due("above 7 characters that are 0", x.put((long) 'd' << 56 | '1'), BAD_VALUE);
            due("above none at all", x.put((long) 'd' << 8), BAD_VALUE);
        });
    }

    @Sentence(in = "Promise 27", says = "- `characters`: 1 to 8 characters")
    void promise27From1To8Characters() {
        RangeDeeds x = new RangeDeeds();
        due("1", x.put(signs("1")), 1);
        due("8", x.put(signs("12345678")), 9);
        due("8 of the highest code", x.put(signs("~~~~~~~~")), 17);
        due("8 of the lowest code", x.put(signs("!!!!!!!!")), 25);
    }

    @Sentence(in = "Promise 27", says = "Returns the length of the pad then;")
    void promise27ReturnsTheLengthOfThePad() {
        RangeDeeds x = new RangeDeeds();
        int length = 0;
        for (int i = 1; i <= 8; i++) {
            length += i;
            due("put", x.put(signs("12345678".substring(0, i))), length);
        }
        x.wipe();
        due("behind wipe()", x.put('1'), 1);
    }

    @Sentence(in = "Promise 27", says = "BAD_VALUE if there is no character,")
    void promise27NoCharacter() {
        RangeDeeds x = withText("d1");
        changesNothing(x, () -> due("put(0)", x.put(0), BAD_VALUE));
    }

    @Sentence(in = "Promise 27", says = "a code is not 33 to 126,")
    void promise27CodesFrom33To126() {
        RangeDeeds x = new RangeDeeds();
        due("code 33", x.put(33), 1);
        due("code 126", x.put(126), 2);
        due("codes 33 and 126", x.put(33 << 8 | 126), 4);
        changesNothing(x, () -> {
            int[] wrong = {1, 9, 31, 32, 127, 128, 200, 255};
            for (int code : wrong) {
                due("code " + code, x.put(code), BAD_VALUE);
                due("code " + code + " behind a sound one", x.put((long) 'd' << 8 | code), BAD_VALUE);
                due("code " + code + " before a sound one", x.put((long) code << 8 | 'd'), BAD_VALUE);
                due("code " + code + " before seven", x.put((long) code << 56 | signs("1234567")), BAD_VALUE);
            }
        });
    }

    @Sentence(in = "Promise 27", says = "a code is not 33 to 126,")
    void promise27NumbersBelow0() {
        RangeDeeds x = new RangeDeeds();
        changesNothing(x, () -> {
            due("put(-1)", x.put(-1), BAD_VALUE);
            due("put(least)", x.put(Long.MIN_VALUE), BAD_VALUE);
            due("put(greatest)", x.put(Long.MAX_VALUE), BAD_VALUE);
            due("eight characters and the highest bit", x.put(HIGHEST_BIT | signs("12345678")), BAD_VALUE);
        });
    }

    @Sentence(in = "Promise 27", says = "or a bit above 8 bits that are 0 is not 0;")
    void promise27ABitAbove8BitsThatAre0() {
        RangeDeeds x = withText("d1");
        changesNothing(x, () -> {
            for (int bit = 16; bit < 64; bit++) {
                due("bit " + bit, x.put(1L << bit | '1'), BAD_VALUE);
            }
            for (int bit = 8; bit < 64; bit++) {
                due("bit " + bit + " above no character", x.put(1L << bit), BAD_VALUE);
            }
        });
    }

    @Sentence(in = "Promise 27", says = "TOO_MANY if the pad would be longer than 80.")
    void promise27LongerThan80() {
        for (int length = 73; length <= 80; length++) {
            RangeDeeds x = withPad(length);
            changesNothing(x, () -> due("8 more", x.put(signs("12345678")), TOO_MANY));
            int room = 80 - x.count(10);
            String more = "12345678".substring(0, room + 1);
            changesNothing(x, () -> due("one more than there is room for", x.put(signs(more)), TOO_MANY));
            if (room > 0) {
                due("as many as there is room for", x.put(signs(more.substring(1))), 80);
            }
        }
        due("8 more", withPad(72).put(signs("12345678")), 80);
    }

    @Sentence(in = "Promise 27", says = "BAD_VALUE if there is no character, a code is not 33 to 126, or a bit above"
        + " 8 bits that are 0 is not 0; TOO_MANY if the pad would be longer than 80.")
    void promise27ErrorsInTheirOrder() {
        RangeDeeds x = withPad(80);
        due("no character", x.put(0), BAD_VALUE);
        due("code 32", x.put(32), BAD_VALUE);
        due("a bit above", x.put(1L << 40 | '1'), BAD_VALUE);
        due("a sound one", x.put('1'), TOO_MANY);
    }

    // ---- wipe

    @Sentence(in = "Promise 28", says = "Empties the pad,")
    void promise28EmptiesThePad() {
        RangeDeeds x = withPad(80);
        x.wipe();
        due("count(10)", x.count(10), 0);
        due("fault()", x.fault(), 0);
        due("carryOut()", x.carryOut(), BAD_TEXT);
        due("put", x.put('1'), 1);
        due("fault() of what came then", x.fault(), 0);
        due("wipe is no change", x.count(11), 3);
    }

    @Sentence(in = "Promise 28", says = "and returns the length that it had.")
    void promise28ReturnsTheLength() {
        RangeDeeds x = withPad(80);
        due("full", x.wipe(), 80);
        due("empty", x.wipe(), 0);
        x.put('1');
        due("one character", x.wipe(), 1);
        due("a new object", new RangeDeeds().wipe(), 0);
    }

    // ---- fault

    @Sentence(in = "Promise 29", says = "Returns the fault of the pad,")
    void promise29ReturnsTheFault() {
        RangeDeeds x = withText("+A1");
        changesNothing(x, () -> due("too early", x.fault(), 3));
        putText(x, ":x");
        changesNothing(x, () -> due("a character", x.fault(), 4));
        putText(x, "1");
        due("the first one stays", x.fault(), 4);
        x.wipe();
        due("empty", x.fault(), 0);
    }

    @Sentence(in = "Promise 29", says = "NONE if there is none.")
    void promise29None() {
        faultDue("+A0:1;-2:3;gB4;pC5;d6", NONE);
        faultDue("d1;".repeat(26) + "d1", NONE);
        RangeDeeds x = withText("+A1:1");
        due("fault()", x.fault(), NONE);
        putText(x, "2");
        due("a longer number", x.fault(), NONE);
        due("an entry that will be refused is no fault", withText("gJ0;d0;-0:0").fault(), NONE);
    }

    // ---- carryOut

    @Sentence(in = "Promise 30", says = "Carries the entries of the pad out, one after the other,")
    void promise30OneAfterTheOther() {
        RangeDeeds x = withText("gA5;+B2:1;-0:1;gC1;d1;pA7;d1");
        due("carryOut()", x.carryOut(), 7);
        due("count(2)", x.count(2), 4);
        rangeDue(x, 0, 2, 0, 1);
        rangeDue(x, 1, 0, 1, 1);
        rangeDue(x, 2, 1, 2, 1);
        rangeDue(x, 3, 0, 3, 2);
        due("two days", x.money(0), 1000 - 2 * 60 + 7);
    }

    @Sentence(in = "Promise 30", says = "up to the first one that returns an error,")
    void promise30UpToTheFirstError() {
        RangeDeeds x = withText("d1;gD1;d2;gD1;d4");
        due("carryOut()", x.carryOut(), 1);
        due("count(0)", x.count(0), 1);
        String[] refused = {"+D0:1", "+A0:0", "+A9999:2", "-0:0", "-9999:2", "gD1", "gA0", "pD1", "d0", "d61"};
        for (String entry : refused) {
            RangeDeeds y = withText("d1;" + entry + ";d1");
            due("up to " + entry, y.carryOut(), 1);
            due("count(0) behind " + entry, y.count(0), 1);
            due("count(2) behind " + entry, y.count(2), 0);
        }
    }

    @Sentence(in = "Promise 30", says = "up to the first one that returns an error,")
    void promise30UpToTheFirstErrorOfMost() {
        RangeDeeds x = withOwners(1000);
        x.set(MOST, 10);
        putText(x, "gA10;+A0:9;gA1;d1");
        due("one meter too many", x.carryOut(), 2);
        due("count(0)", x.count(0), 0);
        RangeDeeds y = withRanges(40);
        putText(y, "pB1;-1:1;pB1");
        due("one range too many", y.carryOut(), 1);
        due("money(1)", y.money(1), 1001);
    }

    @Sentence(in = "Promise 30", says = "and empties the pad.")
    void promise30EmptiesThePad() {
        RangeDeeds x = withText("d1;d2");
        x.carryOut();
        due("all are carried out", x.count(10), 0);
        putText(x, "d1;gD1;d2");
        x.carryOut();
        due("one is refused", x.count(10), 0);
        putText(x, "d0");
        x.carryOut();
        due("the only one is refused", x.count(10), 0);
        due("what comes then is read alone", x.put(signs("d5")), 2);
        due("carryOut()", x.carryOut(), 1);
    }

    @Sentence(in = "Promise 30", says = "This is a change (one, with all of them;")
    void promise30IsOneChange() {
        RangeDeeds x = withText("+A0:10;gB5;pC9;-3:1;d2;d3;d4");
        isOneChange(x, () -> due("carryOut()", x.carryOut(), 7));
        due("the pad is not brought back", x.count(10), 0);
    }

    @Sentence(in = "Promise 30", says = "also if none is carried out).")
    void promise30IsAChangeIfNoneIsCarriedOut() {
        RangeDeeds x = withText("d0;d1");
        isOneChange(x, () -> due("carryOut()", x.carryOut(), 0));
        putText(x, "d0");
        due("carryOut()", x.carryOut(), 0);
        due("count(11)", x.count(11), 4);
        due("undo() takes only it back", x.undo(), 3);
        due("count(1)", x.count(1), 3);
    }

    @Sentence(in = "Promise 30", says = "Returns how many entries were carried out;")
    void promise30ReturnsHowManyEntries() {
        due("none", withText("d0").carryOut(), 0);
        due("one", withText("d1").carryOut(), 1);
        due("one of two", withText("d1;d0").carryOut(), 1);
        due("all of 27", withPad(80).carryOut(), 27);
        due("the last is refused", withText("d1;".repeat(26) + "d0").carryOut(), 26);
        due("answers of 0 are no errors", withText("pA0;gA1;-0:1;gA1").carryOut(), 4);
    }

    @Sentence(in = "Promise 30", says = "BAD_TEXT if the pad has a fault (then it stays).")
    void promise30PadWithAFaultStays() {
        String[] faulty = {"d1;x", "d1;", "+A1:2;-", "x", "d00"};
        for (String text : faulty) {
            RangeDeeds x = withText(text);
            changesNothing(x, () -> due("carryOut() of " + text, x.carryOut(), BAD_TEXT));
            due("count(10) of " + text, x.count(10), text.length());
        }
        RangeDeeds empty = withText("");
        changesNothing(empty, () -> due("carryOut() of an empty pad", empty.carryOut(), BAD_TEXT));
        RangeDeeds x = withText("d1;d");
        x.carryOut();
        x.put('2');
        due("it is mended then", x.carryOut(), 2);
        due("count(0)", x.count(0), 3);
    }
}
