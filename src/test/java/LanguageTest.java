import java.io.IOException;
import java.lang.reflect.Field;
import java.lang.reflect.Member;
import java.lang.reflect.Method;
import java.lang.reflect.Modifier;
import java.nio.file.Files;
import java.nio.file.Path;
import java.util.ArrayList;
import java.util.Arrays;
import java.util.List;
import java.util.regex.Matcher;
import java.util.regex.Pattern;

/**
 * The face of the class, and those rules of ../shared/LANGUAGE.md that can be read off the file. It is to run in
 * the project's folder.
 */
public final class LanguageTest {
    private static final String[] METHODS = {
        "int tell(int)", "int entry(int,int,int,int)", "int shrink(int)", "int add(int,int,int)", "int turn(int)",
        "int copy(int,int)", "int clear(int,int,int)", "int at(int,int,int)", "int block(int,int,int,int)",
        "int of(int,int)", "long product(int,int,int,int)", "long mean(int)", "int share(int)", "int count(int)",
        "int far(int,int)", "int wouldTake(int)", "int isOne(int,int,int,int)", "int bestTimes(int,int,int)",
        "int put(long)", "int wipe()", "int fault()", "int undo()", "int save(int)", "int restore(int)"};
    private static final String[] CONSTANTS = {
        "NO_SUCH", "BAD_VALUE", "BAD_TEXT", "TOO_MANY", "NOT_POSSIBLE", "NONE", "EMPTY", "FULL", "THIN", "CUT"};
    private static final int[] VALUES = {-1, -2, -3, -4, -5, -6, 0, 1, 2, 3};
    private static final String[] FORBIDDEN = {
        "->", "::", "\\bimport\\b", "\\bpackage\\b", "\\bprotected\\b", "\\btry\\b", "\\bcatch\\b", "\\bfinally\\b",
        "\\bsynchronized\\b", "\\bassert\\b", "\\bthrow\\b", "\\bDouble\\b", "\\bFloat\\b", "\\bdouble\\b",
        "\\bfloat\\b", "\\bInteger\\b", "Exact\\(", "\\bObject\\b", "\\bString\\b", "\\bhashCode\\b", "\\bequals\\b",
        "\\btoString\\b", "\\bSystem\\.(?!arraycopy)", "\\bMath\\.(?!max\\(|min\\(|abs\\()",
        "\\bLong\\b", "\\binstanceof\\b", "\\bnative\\b", "\\btransient\\b", "\\bvolatile\\b", "\\bstrictfp\\b",
        "\\bvar\\b", "\\bstatic \\{", "@", "[^\\x00-\\x7f]"};

    private static final Due due = new Due();

    public static void main(String[] args) throws IOException {
        checkFace();
        checkNestedClasses();
        String code = code(Files.readString(Path.of("src/main/java/BlockTrees.java")));
        for (String forbidden : FORBIDDEN) {
            due.holds("the file has no " + forbidden, !Pattern.compile(forbidden).matcher(code).find());
        }
        checkMethods(code);
        checkHeadings(Files.readString(Path.of("src/main/java/BlockTrees.java")));
        due.finish();
    }

    private static void checkFace() {
        due.holds("public and final", BlockTrees.class.getModifiers() == (Modifier.PUBLIC | Modifier.FINAL));
        due.is("constructors", BlockTrees.class.getDeclaredConstructors().length, 1);
        due.is("public constructors", BlockTrees.class.getConstructors().length, 1);
        List<String> methods = new ArrayList<>();
        List<String> names = new ArrayList<>();
        for (Method method : BlockTrees.class.getDeclaredMethods()) {
            if (!isPrivate(method)) {
                due.holds(method + " is public alone", method.getModifiers() == Modifier.PUBLIC);
                due.is("exceptions of " + method, method.getExceptionTypes().length, 0);
                String types = Arrays.stream(method.getParameterTypes()).map(Class::getName)
                        .reduce((a, b) -> a + "," + b).orElse("");
                methods.add(method.getReturnType().getName() + " " + method.getName() + "(" + types + ")");
                names.add(method.getName());
            }
        }
        due.is("public methods", methods.size(), METHODS.length);
        for (String method : METHODS) {
            due.holds("there is " + method, methods.contains(method));
        }
        for (Method method : BlockTrees.class.getDeclaredMethods()) {
            due.holds(method + " has a name of its own", !isPrivate(method) || !names.contains(method.getName()));
        }
        checkConstants();
    }

    private static void checkConstants() {
        int constants = 0;
        for (Field field : BlockTrees.class.getDeclaredFields()) {
            if (!isPrivate(field)) {
                constants++;
                due.holds(field + " is a constant",
                        field.getModifiers() == (Modifier.PUBLIC | Modifier.STATIC | Modifier.FINAL));
            }
        }
        due.is("constants", constants, CONSTANTS.length);
        for (int k = 0; k < CONSTANTS.length; k++) {
            try {
                due.is(CONSTANTS[k], BlockTrees.class.getField(CONSTANTS[k]).getInt(null), VALUES[k]);
            } catch (ReflectiveOperationException missing) {
                due.holds("there is " + CONSTANTS[k], false);
            }
        }
    }

    private static void checkNestedClasses() {
        Class<?>[] nested = BlockTrees.class.getDeclaredClasses();
        due.holds("at most some twelve classes", nested.length <= 11);
        for (Class<?> inside : nested) {
            int modifiers = inside.getModifiers();
            due.holds(inside + " is not public", !Modifier.isPublic(modifiers) && !Modifier.isProtected(modifiers));
            due.holds(inside + " is static", Modifier.isStatic(modifiers));
            due.holds(inside + " has at most some twenty fields", inside.getDeclaredFields().length <= 20);
            for (Method method : inside.getDeclaredMethods()) {
                due.holds(method + " bears no name of the face",
                        Arrays.stream(METHODS).noneMatch(face -> face.contains(" " + method.getName() + "(")));
            }
            for (Field field : inside.getDeclaredFields()) {
                int f = field.getModifiers();
                due.holds(field + " is no static state", !Modifier.isStatic(f) || Modifier.isFinal(f));
            }
        }
        for (Field field : BlockTrees.class.getDeclaredFields()) {
            int f = field.getModifiers();
            due.holds(field + " is no static state", !Modifier.isStatic(f)
                    || Modifier.isFinal(f) && (field.getType().isPrimitive() || field.getType() == String.class));
        }
    }

    private static boolean isPrivate(Member member) {
        return Modifier.isPrivate(member.getModifiers()) || member.isSynthetic();
    }

    /** The file without its comments. */
    private static String code(String text) {
        return text.replaceAll("(?s)/\\*.*?\\*/", "").replaceAll("//[^\n]*", "");
    }

    /** Methods are short, take few parameters, and make nothing: that is left to initialisers and constructors. */
    private static void checkMethods(String code) {
        String[] lines = code.split("\n");
        Pattern head = Pattern.compile("( {4}| {8})(?! |if|for|while|switch|\\})[\\w\\[\\] ]*?(\\w+)\\((.*)\\) \\{");
        int methods = 0;
        for (int begin = 0; begin < lines.length; begin++) {
            Matcher method = head.matcher(lines[begin]);
            if (!method.matches()) {
                continue;
            }
            methods++;
            String name = method.group(2);
            int end = begin;
            boolean makes = false;
            while (!lines[end].equals(method.group(1) + "}")) {
                makes |= lines[end].contains("new ");
                end++;
            }
            due.holds(name + " takes at most seven parameters", method.group(3).split(",").length <= 7);
            due.holds(name + " is short", end - begin <= 60);
            due.holds(name + " makes nothing", !makes || Character.isUpperCase(name.charAt(0)));
        }
        due.holds("there are methods", methods > 60);
    }

    /** "Ahead of the calls .. the interface says": the calls stand in the document's order, behind these words. */
    private static void checkHeadings(String text) {
        String[] headings = {"changes", "what there is", "what if; nothing changes", "texts", "undo, saving"};
        int[] firstCalls = {0, 7, 14, 18, 21};
        int place = 0;
        int heading = 0;
        for (int call = 0; call < METHODS.length; call++) {
            if (heading < headings.length && firstCalls[heading] == call) {
                place = text.indexOf("// ---- " + headings[heading] + "\n", place);
                due.holds("ahead of " + METHODS[call] + " stands: " + headings[heading], place >= 0);
                place = Math.max(place, 0);
                heading++;
            }
            place = text.indexOf("    public " + METHODS[call].replaceAll("\\(.*", "("), place);
            due.holds("in its order: " + METHODS[call], place >= 0);
            place = Math.max(place, 0);
        }
    }
}
