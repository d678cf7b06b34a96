import java.lang.reflect.Constructor;
import java.lang.reflect.Field;
import java.lang.reflect.Method;
import java.lang.reflect.Modifier;
import java.nio.file.Files;
import java.nio.file.Path;
import java.util.Set;
import java.util.TreeSet;
import java.util.regex.Matcher;
import java.util.regex.Pattern;

/** The face of the class, and those rules of LANGUAGE.md that a look at the file can tell. */
public final class LanguageTest {
    private static final Pattern METHOD = Pattern.compile("public (int|long) (\\w+)\\((.*)\\);");
    private static final Pattern CONSTANT = Pattern.compile("public static final int (\\w+) = (-?\\d+);");
    private static final Set<String> FACE = new TreeSet<>();

    public static void main(String[] args) throws Exception {
        readFace();
        face();
        nestedClasses();
        words();
        sizes();
        Check.finish();
    }

    /** The document's face; each of its lines is one of these three, or the test fails. */
    private static void readFace() throws Exception {
        int constants = 0;
        for (String line : Document.face()) {
            Matcher method = METHOD.matcher(line.strip());
            Matcher constant = CONSTANT.matcher(line.strip());
            if (method.matches()) {
                FACE.add(method.group(1) + " " + method.group(2) + "(" + method.group(3).replaceAll(" \\w+(, )?", ",")
                        .replaceAll(",$", "") + ")");
            } else if (constant.matches()) {
                constants++;
                Field field = SailCargo.class.getField(constant.group(1));
                Check.same(line, field.getInt(null), Integer.parseInt(constant.group(2)));
            } else {
                Check.holds("\"" + line + "\" of the face is read", line.strip().equals("public SailCargo();"));
            }
        }
        Check.same("methods of the document's face", FACE.size(), 25);
        Check.same("constants that others see", SailCargo.class.getFields().length, constants);
    }

    private static void face() {
        Set<String> seen = new TreeSet<>();
        for (Method method : SailCargo.class.getDeclaredMethods()) {
            if (!Modifier.isPrivate(method.getModifiers())) {
                seen.add(shape(method));
                Check.holds(method + " is public", Modifier.isPublic(method.getModifiers()));
            }
        }
        Check.holds("the methods " + seen, seen.equals(FACE));
        for (Field field : SailCargo.class.getDeclaredFields()) {
            boolean isNone = field.getName().equals("NONE");
            Check.holds(field + " is private", isNone || Modifier.isPrivate(field.getModifiers()));
        }
        Constructor<?>[] constructors = SailCargo.class.getDeclaredConstructors();
        Check.same("constructors", constructors.length, 1);
        Check.holds("a public constructor without parameters", Modifier.isPublic(constructors[0].getModifiers())
                && constructors[0].getParameterCount() == 0);
        int is = SailCargo.class.getModifiers();
        Check.holds("public final", Modifier.isPublic(is) && Modifier.isFinal(is));
    }

    private static String shape(Method method) {
        StringBuilder all = new StringBuilder(method.getReturnType().getName());
        all.append(' ').append(method.getName()).append('(');
        String comma = "";
        for (Class<?> type : method.getParameterTypes()) {
            all.append(comma).append(type.getName());
            comma = ",";
        }
        return all.append(')').toString();
    }

    private static void nestedClasses() {
        Set<String> names = new TreeSet<>();
        for (String shape : FACE) {
            names.add(shape.replaceAll("^\\w+ (\\w+)\\(.*", "$1"));
        }
        Class<?>[] nested = SailCargo.class.getDeclaredClasses();
        Check.holds("some twelve classes at most", nested.length < 12);
        for (Class<?> one : nested) {
            Check.holds(one + " is static", Modifier.isStatic(one.getModifiers()));
            for (Method method : one.getDeclaredMethods()) {
                Check.holds(method + " has a name of its own", !names.contains(method.getName()));
                Check.holds(method + " takes seven at most", method.getParameterCount() <= 7);
            }
            for (Field field : one.getDeclaredFields()) {
                int is = field.getModifiers();
                Check.holds(field + " is no static state", !Modifier.isStatic(is) || Modifier.isFinal(is));
            }
        }
        for (Method method : SailCargo.class.getDeclaredMethods()) {
            boolean isOwn = Modifier.isPrivate(method.getModifiers());
            Check.holds(method + " has a name of its own", !isOwn || !names.contains(method.getName()));
        }
    }

    private static void words() throws Exception {
        String file = Files.readString(Path.of("src/main/java/SailCargo.java"));
        String code = file.replaceAll("(?s)/\\*.*?\\*/", "").replaceAll("//[^\n]*", "").replaceAll("\"[^\"]*\"", "\"\"");
        String[] words = {"throw", "throws", "try", "catch", "synchronized", "assert", "package", "protected",
            "import (?!java\\.util\\.(ArrayList|List|Arrays|Iterator);)\\w+", "hashCode", "Thread", "Object",
            "System\\.(?!arraycopy)\\w+", "\\w+Exact"};
        for (String word : words) {
            Matcher matcher = Pattern.compile("\\b" + word + "\\b").matcher(code);
            Check.holds("no " + word, !matcher.find());
        }
        Check.holds("no lambda, no method reference", !code.contains("->") && !code.contains("::"));
        Check.holds("no joining of texts by +", !Pattern.compile("\"\\s*\\+|\\+\\s*\"").matcher(code).find());
    }

    /** Rule 11: some sixty lines a method, some twenty fields a class. */
    private static void sizes() throws Exception {
        String file = Files.readString(Path.of("src/main/java/SailCargo.java"));
        Matcher method = Pattern.compile("(?ms)^( {4,8})(?! )([^\\n=;*]*\\w\\([^;{]*\\) \\{\\n.*?)^\\1\\}").matcher(file);
        int methods = 0;
        while (method.find()) {
            methods++;
            String body = method.group(2);
            Check.holds("sixty lines at most: " + body.lines().findFirst().orElse(""), body.lines().count() < 60);
        }
        Check.holds("methods were found, not " + methods, methods > 80);
        for (Class<?> one : SailCargo.class.getDeclaredClasses()) {
            int fields = 0;
            for (Field field : one.getDeclaredFields()) {
                fields += Modifier.isStatic(field.getModifiers()) ? 0 : 1;
            }
            Check.holds(one + " has twenty fields at most", fields <= 20);
        }
    }
}
