import java.lang.reflect.Field;
import java.lang.reflect.Method;
import java.lang.reflect.Modifier;
import java.nio.file.Files;
import java.nio.file.Path;
import java.util.ArrayList;
import java.util.List;
import java.util.Set;
import java.util.TreeSet;
import java.util.regex.Matcher;
import java.util.regex.Pattern;

/** The face of the document, and those rules of LANGUAGE.md that a test can see. */
public final class LanguageTests {
    private static final String[] FACE = {
        "int set(int,int)", "int owner(int)", "int pay(int,int)", "int give(int,int,int)", "int free(int,int)",
        "int grab(int,int)", "int inherit(int,int)", "int transfer(int,int,int,int,int)", "int drop()", "int close()",
        "int failing()", "int days(int)", "int ofRange(int,int)", "int ofOwner(int,int)", "long money(int)",
        "int ownerAt(int)", "int ofTransfer(int,int)", "int count(int)", "int shareBits(int)", "int hole(int,int)",
        "int wouldBe(int,int,int)", "int quietest(int,int)", "int gaps(int)", "int exchange(int)", "int losesIn(int)",
        "int put(long)", "int wipe()", "int fault()", "int carryOut()", "int undo()", "int save(int)",
        "int restore(int)"};
    private static final String[] CONSTANTS = {"NO_SUCH=-1", "BAD_VALUE=-2", "BAD_TEXT=-3", "TOO_MANY=-4",
        "NOT_POSSIBLE=-5", "NONE=-6", "LENGTH_TAX=0", "RANGE_TAX=1", "FEE=2", "SHORTEST=3", "MOST=4"};
    /** What the program does without; some of it is allowed, but not as it would be used here. */
    private static final String[] UNUSED = {"\\bimport\\b", "\\bpackage\\b", "\\btry\\b", "\\bcatch\\b", "\\bthrow\\b",
        "\\bfinally\\b", "\\bsynchronized\\b", "\\bassert\\b", "->", "::", "\\bFloat\\b", "\\bDouble\\b", "\\bObject\\b",
        "\\bString\\b", "\\bfloat\\b", "\\bdouble\\b", "Exact\\b", "\\bprotected\\b", "\\bnative\\b", "\\bvolatile\\b",
        "\\bSystem\\.(?!arraycopy\\b)", "\\bMath\\.(?!(max|min)\\b)", "\\bInteger\\.(?!bitCount\\b)", "\\bvar\\b",
        "\\bhashCode\\b", "\\btoString\\b", "\\bequals\\b", "\""};

    private final Check check = new Check("LanguageTests");

    public static void main(String[] args) throws Exception {
        LanguageTests tests = new LanguageTests();
        tests.face();
        tests.members();
        tests.source(Files.readString(Path.of("src/main/java/RangeDeeds.java")));
        tests.check.end();
    }

    private static String signature(Method method) {
        List<String> types = new ArrayList<>();
        for (Class<?> type : method.getParameterTypes()) {
            types.add(type.getSimpleName());
        }
        return method.getReturnType().getSimpleName() + " " + method.getName() + "(" + String.join(",", types) + ")";
    }

    private void face() throws Exception {
        check.part("the face");
        Class<?> face = RangeDeeds.class;
        check.holds("public and final", Modifier.isPublic(face.getModifiers()) && Modifier.isFinal(face.getModifiers()));
        Set<String> methods = new TreeSet<>();
        for (Method method : face.getDeclaredMethods()) {
            if (!Modifier.isPrivate(method.getModifiers())) {
                check.holds("public " + signature(method), Modifier.isPublic(method.getModifiers()));
                check.holds("not static " + signature(method), !Modifier.isStatic(method.getModifiers()));
                methods.add(signature(method));
            }
        }
        check.holds("the methods of the document: " + methods, methods.equals(new TreeSet<>(List.of(FACE))));
        Set<String> constants = new TreeSet<>();
        for (Field field : face.getDeclaredFields()) {
            if (!Modifier.isPrivate(field.getModifiers())) {
                int all = Modifier.PUBLIC | Modifier.STATIC | Modifier.FINAL;
                check.holds("constant " + field, field.getModifiers() == all && field.getType() == int.class);
                constants.add(field.getName() + "=" + field.getInt(null));
            }
        }
        check.holds("the constants of the document: " + constants, constants.equals(new TreeSet<>(List.of(CONSTANTS))));
        check.due("constructors", face.getDeclaredConstructors().length, 1);
        check.holds("public constructor", Modifier.isPublic(face.getDeclaredConstructor().getModifiers()));
    }

    private void members() {
        check.part("members");
        Set<String> names = new TreeSet<>();
        for (String signature : FACE) {
            names.add(signature.replaceAll(".* |\\(.*", ""));
        }
        List<Class<?>> classes = new ArrayList<>(List.of(RangeDeeds.class.getDeclaredClasses()));
        for (Class<?> inner : classes) {
            check.holds("private and static " + inner, Modifier.isPrivate(inner.getModifiers())
                && Modifier.isStatic(inner.getModifiers()));
        }
        classes.add(RangeDeeds.class);
        check.holds("some twelve classes", classes.size() <= 12);
        for (Class<?> each : classes) {
            int fields = 0;
            for (Field field : each.getDeclaredFields()) {
                boolean isStatic = Modifier.isStatic(field.getModifiers());
                check.holds("final " + field, !isStatic || Modifier.isFinal(field.getModifiers()));
                fields += isStatic ? 0 : 1;
            }
            check.holds("some twenty fields in " + each, fields <= 20);
            for (Method method : each.getDeclaredMethods()) {
                boolean isOfFace = each == RangeDeeds.class && Modifier.isPublic(method.getModifiers());
                check.holds("a name of its own: " + method, isOfFace || !names.contains(method.getName()));
                check.holds("seven parameters in " + method, method.getParameterCount() <= 7);
            }
        }
    }

    private void source(String source) {
        check.part("the source");
        check.holds("signs 1 to 127", source.chars().allMatch(sign -> sign >= 1 && sign <= 127));
        String code = source.replaceAll("(?s)/\\*.*?\\*/|//[^\n]*", "");
        for (String unused : UNUSED) {
            Matcher matcher = Pattern.compile(unused).matcher(code);
            check.holds("without " + unused, !matcher.find());
        }
        int first = 0;
        String[] lines = source.split("\n", -1);
        for (int i = 0; i < lines.length; i++) {
            check.holds("a line of 120 signs: " + lines[i], lines[i].length() <= 120);
            if (lines[i].matches("( {4}| {8})\\w.*\\) \\{")) {
                first = i;
            } else if (lines[i].matches("( {4}| {8})\\}")) {
                check.holds("a method of some sixty lines: " + lines[first],
                    i - first <= 60 || indent(lines[first]) != indent(lines[i]));
            }
        }
    }

    private static int indent(String line) {
        return line.length() - line.stripLeading().length();
    }
}
