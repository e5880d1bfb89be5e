import java.lang.reflect.Constructor;
import java.lang.reflect.Field;
import java.lang.reflect.Method;
import java.lang.reflect.Modifier;
import java.nio.file.Files;
import java.nio.file.Path;
import java.util.Arrays;
import java.util.Set;
import java.util.TreeSet;
import java.util.regex.Matcher;
import java.util.regex.Pattern;

/** The face, and what a look at the source can tell of the rules of ../shared/LANGUAGE.md. */
public final class LanguageTest {
    private static final Check check = new Check("LanguageTest");
    private static final String FACE = "cow(int) taster(int,int) milk(int,int) at(int,int) of(int) notices(int,int,int) "
        + "type(int) herd() count(int) answer(int,int,int) drink(int,int) forget() bear(int) drift(int) undo() seed(int) "
        + "tells(int,int) fewest(int) next(int) once(int,int) halves(int,int) likely(int,int) noticed(int,int,int) "
        + "single(int) share(int,int,int) image() restore() fits(int,int,int,int,int,int) "
        + "slips(int,int,int,int,int,int,int,int) film(int,int,int,int,int) sheet(int,int,int) drop(int) "
        + "item(int,int,int,long) copy(int,int,int,int,int)";
    private static final String CONSTANTS = "BAD=-1 NOT=-2 FULL=-3 NONE=-4 NULL=-11 CAST=-12 INDEX=-13 SIZE=-14";

    public static void main(String[] args) throws Exception {
        face();
        constants();
        classesInside();
        source(Files.readString(Path.of("src/main/java/NewsCow.java")));
        check.end();
    }

    private static void holds(String what, boolean is) {
        check.holds(what, is);
    }

    private static void face() {
        holds("rule 1: public and final", NewsCow.class.getModifiers() == (Modifier.PUBLIC | Modifier.FINAL));
        holds("rule 1: no class above it", NewsCow.class.getSuperclass() == Object.class && NewsCow.class.getInterfaces().length == 0);
        Constructor<?>[] made = NewsCow.class.getDeclaredConstructors();
        holds("rule 1: one constructor", made.length == 1 && made[0].getParameterCount() == 0 && Modifier.isPublic(made[0].getModifiers()));
        Set<String> found = new TreeSet<>();
        for (Method method : NewsCow.class.getDeclaredMethods()) {
            if (!Modifier.isPrivate(method.getModifiers())) {
                found.add(signature(method));
                holds("rule 1: " + method + " is public, no more", method.getModifiers() == Modifier.PUBLIC);
                holds(method + ": what it answers", method.getReturnType() == (method.getName().equals("slips") ? long.class : int.class));
            }
        }
        Set<String> wanted = new TreeSet<>(Arrays.asList(FACE.split(" ")));
        holds("rule 1: the face is " + wanted + ", not " + found, found.equals(wanted));
    }

    private static String signature(Method method) {
        StringBuilder text = new StringBuilder(method.getName()).append('(');
        for (Class<?> type : method.getParameterTypes()) {
            text.append(text.charAt(text.length() - 1) == '(' ? "" : ",").append(type.getName());
        }
        return text.append(')').toString();
    }

    private static void constants() throws IllegalAccessException {
        Set<String> found = new TreeSet<>();
        for (Field field : NewsCow.class.getDeclaredFields()) {
            if (!Modifier.isPrivate(field.getModifiers())) {
                found.add(field.getName() + "=" + field.get(null));
                holds("rule 1: " + field, field.getModifiers() == (Modifier.PUBLIC | Modifier.STATIC | Modifier.FINAL));
            }
        }
        Set<String> wanted = new TreeSet<>(Arrays.asList(CONSTANTS.split(" ")));
        holds("rule 1: the constants are " + wanted + ", not " + found, found.equals(wanted));
    }

    private static void classesInside() {
        Class<?>[] inside = NewsCow.class.getDeclaredClasses();
        holds("rule 11: some twelve classes", inside.length <= 11);
        look(NewsCow.class);
        for (Class<?> one : inside) {
            holds("rule 1: " + one + " is private and static",
                Modifier.isPrivate(one.getModifiers()) && Modifier.isStatic(one.getModifiers()));
            look(one);
        }
    }

    private static void look(Class<?> one) {
        int fields = 0;
        for (Field field : one.getDeclaredFields()) {
            boolean isStatic = Modifier.isStatic(field.getModifiers());
            fields += isStatic ? 0 : 1;
            holds("rule 5: " + field + " is final", !isStatic || Modifier.isFinal(field.getModifiers()));
        }
        holds("rule 11: some twenty fields in " + one, fields <= 20);
        for (Method method : one.getDeclaredMethods()) {
            boolean isFace = one == NewsCow.class && Modifier.isPublic(method.getModifiers());
            holds("rule 11: seven parameters in " + method, isFace || method.getParameterCount() <= 7);
            holds("rule 1: " + method + " bears the name of a public one", isFace || !isNameOfFace(method.getName()));
            holds("rule 2: " + method + " is written, not made", !method.isSynthetic());
        }
    }

    private static boolean isNameOfFace(String name) {
        return (" " + FACE).contains(" " + name + "(");
    }

    private static void source(String text) {
        String bare = text.replaceAll("(?s)/\\*.*?\\*/", "").replaceAll("//[^\n]*", "");
        String[] ruledOut = {
            "import", "package", "catch", "try", "finally", "throw", "throws", "synchronized", "assert", "double",
            "float", "System\\.(?!arraycopy)\\w+", "->", "::", "hashCode", "toString", "native", "volatile", "transient",
            "\\w+Exact", "Random", "Thread", "Integer\\.(?!bitCount\\b)\\w+", "Math\\.(?!min\\b|max\\b)\\w+", "var", "yield"};
        for (String word : ruledOut) {
            String pattern = Character.isLetter(word.charAt(0)) || word.charAt(0) == '\\' ? "\\b" + word + "\\b" : word;
            Matcher matcher = Pattern.compile(pattern).matcher(bare);
            holds("the source holds '" + word + "'", !matcher.find());
        }
        holds("rule 4: signs of 1 to 127 alone", text.chars().allMatch(sign -> sign >= 1 && sign <= 127));
        methodsAreShort(text.split("\n"));
    }

    /** A method is what stands between its first line and the brace below that. */
    private static void methodsAreShort(String[] lines) {
        for (int from = 0; from < lines.length; from++) {
            if (!lines[from].matches(" {4,8}\\w[^;=]*\\) \\{")) {
                continue;
            }
            String end = lines[from].replaceAll("\\S.*", "") + "}";
            int to = from;
            while (to < lines.length && !lines[to].equals(end)) {
                to++;
            }
            holds("rule 11: sixty lines from " + lines[from].trim(), to - from <= 40);
        }
    }
}
