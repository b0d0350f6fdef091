import java.io.IOException;
import java.lang.reflect.InvocationTargetException;
import java.lang.reflect.Method;
import java.util.ArrayList;
import java.util.Arrays;
import java.util.Comparator;
import java.util.List;

/**
 * Runs every method that tells its sentence, each on objects of its own, and looks whether the sentences stand in
 * the document and leave nothing of its sections out.
 */
abstract class SentenceTest {
    static final int NO_SUCH = -1, BAD_VALUE = -2, BAD_TEXT = -3, TOO_MANY = -4, NOT_POSSIBLE = -5, NONE = -6;
    static final int LENGTH_TAX = 0, RANGE_TAX = 1, FEE = 2, SHORTEST = 3, MOST = 4;
    static final int LEAST = Integer.MIN_VALUE, GREATEST = Integer.MAX_VALUE;

    private final Check check = new Check(getClass().getSimpleName());

    /** Runs all tests; every word of the sections has to be in the sentence of one of them. */
    final void runAll(String... sections) throws IOException {
        List<Method> tests = new ArrayList<>();
        for (Method method : getClass().getDeclaredMethods()) {
            if (method.isAnnotationPresent(Sentence.class)) {
                tests.add(method);
            } else {
                check.part("names");
                check.holds(method.getName() + " tells its sentence, or is a helper",
                    method.getParameterCount() > 0 || method.getReturnType() != void.class);
            }
        }
        tests.sort(Comparator.comparing(Method::getName));
        for (Method test : tests) {
            run(test);
        }
        compareWithDocument(tests, sections);
        check.end();
    }

    private void run(Method test) {
        Sentence sentence = test.getAnnotation(Sentence.class);
        check.part(test.getName() + " [" + sentence.in() + ": " + String.join(" .. ", sentence.says()) + "]");
        check.holds("the name begins with the section", test.getName().startsWith(nameOf(sentence.in())));
        int answers = check.answers();
        try {
            test.invoke(this);
        } catch (InvocationTargetException e) {
            check.holds("no " + e.getCause(), false);
        } catch (IllegalAccessException e) {
            check.holds("can be run", false);
        }
        check.holds("something is looked at", check.answers() > answers);
    }

    /** "Promise 5" makes promise05, "A day" makes aDay. */
    private static String nameOf(String section) {
        StringBuilder name = new StringBuilder();
        for (String word : section.split(" ")) {
            String whole = word.matches("\\d") ? "0" + word : word;
            name.append(whole.substring(0, 1).toUpperCase()).append(whole.substring(1));
        }
        return name.substring(0, 1).toLowerCase() + name.substring(1);
    }

    private void compareWithDocument(List<Method> tests, String[] sections) throws IOException {
        check.part("the document");
        if (!Document.isThere()) {
            System.out.println("There is no document here: sentences are not compared with it");
            return;
        }
        Document document = Document.read();
        for (Method test : tests) {
            Sentence sentence = test.getAnnotation(Sentence.class);
            for (String words : sentence.says()) {
                check.holds(sentence.in() + " says \"" + words + "\"", document.says(sentence.in(), words));
            }
        }
        for (String section : sections) {
            check.holds(section + " is tested", !quotesOf(tests, section).isEmpty());
            for (String words : document.unquoted(section, quotesOf(tests, section))) {
                check.holds(section + ": a test of its own for \"" + words + "\"", false);
            }
        }
    }

    private static List<String> quotesOf(List<Method> tests, String section) {
        List<String> quotes = new ArrayList<>();
        for (Method test : tests) {
            Sentence sentence = test.getAnnotation(Sentence.class);
            if (sentence.in().equals(section)) {
                quotes.addAll(List.of(sentence.says()));
            }
        }
        return quotes;
    }

    final void due(String call, long got, long want) {
        check.due(call, got, want);
    }

    /** Looks at the numbers of a range: its owner, its first meter, its length. */
    final void rangeDue(RangeDeeds x, int range, int owner, int first, int length) {
        due("ofRange(" + range + ", 0)", x.ofRange(range, 0), owner);
        due("ofRange(" + range + ", 1)", x.ofRange(range, 1), first);
        due("ofRange(" + range + ", 2)", x.ofRange(range, 2), length);
    }

    /** Looks whether all that an object tells is the same behind some calls. */
    final void changesNothing(RangeDeeds x, Runnable calls) {
        long[] before = picture(x, true);
        calls.run();
        samePicture("what there is, before and behind", picture(x, true), before);
    }

    /** Looks whether a call is one change, which undo() takes back whole. */
    final void isOneChange(RangeDeeds x, Runnable call) {
        long[] before = picture(x, false);
        int changes = x.count(11);
        call.run();
        due("changes that can be undone", x.count(11), Math.min(changes + 1, 6));
        due("undo()", x.undo(), Math.min(changes, 5));
        samePicture("what is undone", picture(x, false), before);
    }

    final void samePicture(String what, long[] got, long[] want) {
        check.holds(what + ": " + Arrays.toString(got) + " is " + Arrays.toString(want), Arrays.equals(got, want));
    }

    /** All that an object tells of its state; the pad and the history only if they are asked for. */
    static long[] picture(RangeDeeds x, boolean whole) {
        List<Long> numbers = new ArrayList<>();
        for (int what = 0; what <= 16; what++) {
            if (whole || what != 10 && what != 11) {
                numbers.add((long) x.count(what));
            }
        }
        for (int i = 0; i < numbers.get(2); i++) {
            for (int what = 0; what < 3; what++) {
                numbers.add((long) x.ofRange(i, what));
            }
        }
        for (int i = 0; i < numbers.get(1); i++) {
            numbers.add(x.money(i));
            numbers.add((long) x.ofOwner(i, 4));
            numbers.add((long) x.ofOwner(i, 5));
        }
        for (int i = 0; i < numbers.get(6); i++) {
            for (int what = 0; what < 5; what++) {
                numbers.add((long) x.ofTransfer(i, what));
            }
        }
        return numbers.stream().mapToLong(Long::longValue).toArray();
    }

    /** A street with an owner for each amount of money. */
    static RangeDeeds withOwners(int... cents) {
        RangeDeeds x = new RangeDeeds();
        for (int money : cents) {
            x.owner(money);
        }
        return x;
    }

    /** A street with so many owners without money. */
    static RangeDeeds withPoorOwners(int owners) {
        return withOwners(new int[owners]);
    }

    /** Three owners of 1000 cents, and so many ranges of three meters, of owner 0, at 0, 10, 20 .. */
    static RangeDeeds withRanges(int ranges) {
        RangeDeeds x = withOwners(1000, 1000, 1000);
        for (int i = 0; i < ranges; i++) {
            x.give(0, 10 * i, 3);
        }
        return x;
    }

    /** One range for each length, of owner 0, with a meter between it and the next one. */
    static void giveLengths(RangeDeeds x, int... lengths) {
        int first = 0;
        for (int length : lengths) {
            x.give(0, first, length);
            first += length + 1;
        }
    }

    /** The number of a text of up to 8 characters. */
    static long signs(String text) {
        long number = 0;
        for (int i = 0; i < text.length(); i++) {
            number = number << 8 | text.charAt(i);
        }
        return number;
    }

    static void putText(RangeDeeds x, String text) {
        for (int at = 0; at < text.length(); at += 8) {
            x.put(signs(text.substring(at, Math.min(at + 8, text.length()))));
        }
    }

    /** Three owners of 1000 cents, and a text on the pad. */
    static RangeDeeds withText(String text) {
        RangeDeeds x = withOwners(1000, 1000, 1000);
        putText(x, text);
        return x;
    }

    final void faultDue(String text, int due) {
        RangeDeeds x = withText(text);
        due("fault() of \"" + text + "\"", x.fault(), due);
    }
}
