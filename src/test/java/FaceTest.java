import java.io.IOException;
import java.lang.reflect.Constructor;
import java.lang.reflect.Field;
import java.lang.reflect.Method;
import java.lang.reflect.Modifier;
import java.nio.file.Files;
import java.nio.file.Path;
import java.util.Arrays;
import java.util.Set;
import java.util.TreeSet;
import java.util.regex.Matcher;
import java.util.regex.Pattern;

/** The public face as the document writes it, and the rules of LANGUAGE.md that a look can test. */
public final class FaceTest {
    private static final String[] METHODS = {
        "int pass(int) IllegalArgumentException IllegalStateException",
        "int today()",
        "int setPrice(int,int) IllegalArgumentException IllegalStateException",
        "int price(int,int) IllegalArgumentException",
        "int setDefault(int) IllegalArgumentException",
        "int begin(int,int) IllegalArgumentException IllegalStateException",
        "int pay(int,int) IndexOutOfBoundsException IllegalArgumentException IllegalStateException",
        "long units(int) IndexOutOfBoundsException",
        "int provider(int) IndexOutOfBoundsException",
        "int order(int,int) IndexOutOfBoundsException IllegalArgumentException IllegalStateException",
        "int step(int) IndexOutOfBoundsException IllegalStateException",
        "int force(int) IndexOutOfBoundsException IllegalStateException",
        "int stage(int) IndexOutOfBoundsException",
        "int due(int) IndexOutOfBoundsException IllegalStateException",
        "int late(int) IndexOutOfBoundsException",
        "long money(int) IndexOutOfBoundsException",
        "long madeGood(int) IndexOutOfBoundsException",
        "long owes(int,int) IllegalArgumentException",
        "long losses(int) IllegalArgumentException",
    };
    private static final String[] RULED_OUT = {
        "\\bcatch\\b", "\\bfinally\\b", "\\bimport\\b", "\\bpackage\\b", "\\bsynchronized\\b", "\\bassert\\b",
        "->", "::", "\\bjava\\.", "\\bSystem\\.(?!arraycopy)", "Exact\\(", "static\\s*\\{",
    };

    public static void main(String[] args) throws IOException {
        methodsOfTheFace();
        constructorsAndFields();
        privateMethodsHaveOtherNames();
        objectsInsideHoldNoOthers();
        String source = Files.readString(Path.of(System.getProperty("fundmoves.source")));
        sourceKeepsToTheLanguage(source);
        indexesAreLookedAt(source);
        Check.end();
    }

    private static void methodsOfTheFace() {
        Set<String> open = new TreeSet<>();
        for (Method method : FundMoves.class.getDeclaredMethods()) {
            if (!Modifier.isPrivate(method.getModifiers()) && !method.isSynthetic()) {
                open.add(written(method));
                boolean isPlain = method.getModifiers() == Modifier.PUBLIC;
                Check.isTrue(method.getName() + " is public and of the object", isPlain);
            }
        }
        Check.isTrue("the methods are " + open, open.equals(new TreeSet<>(Arrays.asList(METHODS))));
    }

    private static String written(Method method) {
        StringBuilder line = new StringBuilder();
        line.append(method.getReturnType().getSimpleName()).append(' ').append(method.getName()).append('(');
        for (int i = 0; i < method.getParameterCount(); i++) {
            line.append(i == 0 ? "" : ",").append(method.getParameterTypes()[i].getSimpleName());
        }
        line.append(')');
        for (Class<?> thrown : method.getExceptionTypes()) {
            line.append(' ').append(thrown.getSimpleName());
        }
        return line.toString();
    }

    private static void constructorsAndFields() {
        Check.isTrue("the class is public and final",
                FundMoves.class.getModifiers() == (Modifier.PUBLIC | Modifier.FINAL));
        Constructor<?>[] constructors = FundMoves.class.getDeclaredConstructors();
        Check.same("constructors", 1, constructors.length);
        Check.isTrue("the constructor is public, without parameters",
                Modifier.isPublic(constructors[0].getModifiers()) && constructors[0].getParameterCount() == 0);
        Set<String> constants = new TreeSet<>();
        for (Field field : FundMoves.class.getDeclaredFields()) {
            if (!Modifier.isPrivate(field.getModifiers()) && !field.isSynthetic()) {
                constants.add(field.getName());
            }
            boolean isStatic = Modifier.isStatic(field.getModifiers());
            Check.isTrue(field.getName() + " is final if static",
                    !isStatic || Modifier.isFinal(field.getModifiers()));
        }
        Check.isTrue("the constants are " + constants,
                constants.equals(new TreeSet<>(Arrays.asList("ANSWER", "SALE", "PURCHASE", "DONE"))));
    }

    private static void privateMethodsHaveOtherNames() {
        for (Method method : FundMoves.class.getDeclaredMethods()) {
            boolean isPrivate = Modifier.isPrivate(method.getModifiers());
            for (String line : METHODS) {
                boolean isTaken = line.contains(" " + method.getName() + "(");
                Check.isTrue(method.getName() + " is a name of its own", !isPrivate || !isTaken);
            }
        }
        for (Class<?> inside : FundMoves.class.getDeclaredClasses()) {
            Check.isTrue(inside.getSimpleName() + " is static and not public",
                    Modifier.isStatic(inside.getModifiers()) && !Modifier.isPublic(inside.getModifiers()));
        }
    }

    /** What one of them does not hold, it can't find missing: references are looked up, with a test against null. */
    private static void objectsInsideHoldNoOthers() {
        for (Class<?> inside : FundMoves.class.getDeclaredClasses()) {
            for (Field field : inside.getDeclaredFields()) {
                boolean isRow = field.getType().isArray() && field.getType().getComponentType().isPrimitive()
                        && Modifier.isFinal(field.getModifiers());
                Check.isTrue(inside.getSimpleName() + "." + field.getName() + " is a number or a row of numbers",
                        field.getType().isPrimitive() || isRow);
            }
        }
    }

    private static void sourceKeepsToTheLanguage(String source) {
        for (String pattern : RULED_OUT) {
            Matcher found = Pattern.compile(pattern).matcher(source);
            Check.isTrue("no " + pattern + " in the source", !found.find());
        }
        Check.isTrue("the source's signs are 1 to 127", source.chars().allMatch(sign -> sign > 0 && sign < 128));
    }

    /** Each index that is no written number has a test ahead of it, in the method that uses it. */
    private static void indexesAreLookedAt(String source) {
        Pattern use = Pattern.compile("(?<!new )\\b(?:[a-z]\\w*)(?:\\[[^\\]]*\\])*\\[([a-z][\\w.]*)\\]");
        int uses = 0;
        for (String method : source.split("\n    }\n|\n        }\n(?=\n        \\S)")) {
            Matcher found = use.matcher(method);
            for (int from = 0; found.find(from); from = found.start() + 1) {
                String[] indexes = found.group().substring(found.group().indexOf('[') + 1).split("\\]\\[|\\]");
                for (String index : indexes) {
                    uses++;
                    Check.isTrue(found.group() + " is used behind a test of " + index,
                            isLookedAt(index, method.substring(0, found.start())));
                }
            }
        }
        Check.isTrue("indexes are found in the source", uses >= 10);
    }

    private static boolean isLookedAt(String index, String ahead) {
        String name = Pattern.quote(index);
        return Pattern.compile("(isOutside\\(" + name + ",|(isProvider|checkProvider)\\(" + name + "\\)|\\b"
                + name + " < [A-Z_]+\\b)").matcher(ahead).find();
    }
}
