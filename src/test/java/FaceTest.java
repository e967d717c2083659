import java.lang.reflect.Constructor;
import java.lang.reflect.Field;
import java.lang.reflect.Method;
import java.lang.reflect.Modifier;
import java.nio.file.Files;
import java.nio.file.Path;
import java.util.HashSet;
import java.util.Set;
import java.util.TreeSet;
import java.util.regex.Matcher;
import java.util.regex.Pattern;

/** The document's public face, and the rules of LANGUAGE.md that can be seen from outside. */
public final class FaceTest {
    private static final String FACE = "person(int) row(int,int,int) set(int,int,long) "
            + "copy(int,int,int,int,int) element(int,int)long show(int,int) holds(int) kindIn(int,int) "
            + "term(int,int) fault() law(int,int) counts(int,int,int) ill(int,int) refuse(int) recall(int) "
            + "lend(int,int,int) picture(int) scene(int,int,int,int) mark(int,int,int,int) costs(int,int) "
            + "best(int) bestScene(int,int) bound(int) judge(int,int) begin(int,int) retake(int,int) "
            + "days(int) who(int,int) about(int,int) left(int,int) draft(int,int,int) credit(int,int) "
            + "named(int) code(int,int) barred(int,int) mend(int) take(int,int,int,int,int) reel(int,int) "
            + "reelTake(int,int) land(int,int) preview(int,int,int,int) putRight(int,boolean)long "
            + "hall(int,int,int) clearance(int) book(int,int,int) block(int,int,int) shown(int,int) "
            + "takings(int,int,int) got(int,int) lot(int,int) worth(int,int,int) plan(int) planned(int) "
            + "status(int)";

    public static void main(String[] args) throws Exception {
        members();
        insideClasses();
        source();
        Checks.end();
    }

    private static void claim(String what, boolean holds) {
        Checks.due(what, holds ? 1 : 0, 1);
    }

    private static void members() {
        Class<?> face = StudioYears.class;
        claim("public and final", Modifier.isPublic(face.getModifiers()) && Modifier.isFinal(face.getModifiers()));
        Set<String> found = new TreeSet<>();
        Set<String> publicNames = new HashSet<>();
        for (Method one : face.getDeclaredMethods()) {
            if (Modifier.isPublic(one.getModifiers())) {
                found.add(signature(one));
                publicNames.add(one.getName());
            }
        }
        claim("the methods are those of the document: " + found, found.equals(new TreeSet<>(Set.of(FACE.split(" ")))));
        for (Method one : face.getDeclaredMethods()) {
            int is = one.getModifiers();
            claim(one + " is public or private", Modifier.isPublic(is) || Modifier.isPrivate(is));
            claim(one + " bears no public name", Modifier.isPublic(is) || !publicNames.contains(one.getName()));
        }
        for (Field one : face.getDeclaredFields()) {
            int is = one.getModifiers();
            claim(one + " is private or NONE", Modifier.isPrivate(is) || one.getName().equals("NONE"));
            claim(one + " is final if static", !Modifier.isStatic(is) || Modifier.isFinal(is));
        }
        for (Constructor<?> one : face.getDeclaredConstructors()) {
            claim(one + " is public and takes nothing", Modifier.isPublic(one.getModifiers()) && one.getParameterCount() == 0);
        }
        for (Class<?> inside : face.getDeclaredClasses()) {
            for (Method one : inside.getDeclaredMethods()) {
                claim(one + " bears no public name", !publicNames.contains(one.getName()));
            }
        }
    }

    private static String signature(Method one) {
        StringBuilder text = new StringBuilder(one.getName()).append('(');
        for (Class<?> type : one.getParameterTypes()) {
            text.append(text.charAt(text.length() - 1) == '(' ? "" : ",").append(type.getName());
        }
        return text.append(')').append(one.getReturnType() == int.class ? "" : one.getReturnType().getName()).toString();
    }

    private static void insideClasses() {
        Class<?>[] inside = StudioYears.class.getDeclaredClasses();
        someTwentyFields(StudioYears.class);
        claim("at most twelve classes", inside.length < 12);
        for (Class<?> one : inside) {
            int is = one.getModifiers();
            claim(one + " is static and not seen outside",
                    Modifier.isStatic(is) && !Modifier.isPublic(is) && !Modifier.isProtected(is));
            someTwentyFields(one);
            for (Method method : one.getDeclaredMethods()) {
                claim(method + " takes at most seven", method.getParameterCount() <= 7);
            }
        }
    }

    /** Static ones are constants, of the types that may be; the others are few. */
    private static void someTwentyFields(Class<?> one) {
        Set<Class<?>> constants = Set.of(int.class, long.class, boolean.class, char.class, String.class,
                int[].class, long[].class, char[].class, byte[].class);
        int fields = 0;
        for (Field field : one.getDeclaredFields()) {
            int is = field.getModifiers();
            fields += Modifier.isStatic(is) ? 0 : 1;
            claim(field + " is a constant if static", !Modifier.isStatic(is)
                    || Modifier.isFinal(is) && constants.contains(field.getType()));
        }
        claim(one + " has some twenty fields", fields <= 20);
    }

    private static void source() throws Exception {
        String text = Files.readString(Path.of("src/main/java/StudioYears.java"));
        String code = text.replaceAll("(?s)/\\*.*?\\*/", "").replaceAll("//[^\n]*", "");
        Matcher banned = Pattern.compile("\\b(throw|throws|try|catch|synchronized|assert|package|import|transient"
                + "|volatile|native|hashCode|toString)\\b|->|::|@").matcher(code);
        claim("none of what LANGUAGE.md leaves out", !banned.find());
        claim("signs 1 to 127 alone", text.chars().allMatch(sign -> sign > 0 && sign < 128));
        Matcher library = Pattern.compile("\\b(Math|Integer|System|Long)\\.(\\w+)").matcher(code);
        Set<String> allowed = Set.of("max", "min", "bitCount", "numberOfTrailingZeros", "arraycopy");
        while (library.find()) {
            claim(library.group() + " is in the library", allowed.contains(library.group(2)));
        }
        int start = 0;
        int line = 0;
        for (String one : code.split("\n", -1)) {
            line++;
            if (one.matches(" {4}( {4})?\\w.*\\) \\{") && !one.matches(" *(if|for|while|switch|else)\\b.*")) {
                start = line;
            }
            if (one.matches(" {4}( {4})?\\}")) {
                claim("a method of at most sixty lines ends at " + line, start == 0 || line - start < 60);
                start = 0;
            }
        }
    }
}
