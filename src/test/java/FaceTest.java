import java.lang.reflect.Constructor;
import java.lang.reflect.Field;
import java.lang.reflect.Method;
import java.lang.reflect.Modifier;
import java.nio.file.Files;
import java.nio.file.Path;
import java.util.Set;
import java.util.TreeSet;
import java.util.regex.Matcher;
import java.util.regex.Pattern;

/** The public face is the document's, no more and no less; read from ../shared/DOC.md. */
public final class FaceTest {
    public static void main(String[] args) throws Exception {
        Set<String> due = documentFace(Files.readString(Path.of("../shared/DOC.md")));
        Set<String> is = new TreeSet<>();
        for (Method m : LieKitchen.class.getDeclaredMethods()) {
            if (Modifier.isPrivate(m.getModifiers()) || m.isSynthetic()) {
                continue;
            }
            Check.isTrue("public: " + m, Modifier.isPublic(m.getModifiers()));
            is.add(signature(m));
        }
        Check.due("methods", is.size(), due.size());
        Check.isTrue("lacking " + less(due, is), less(due, is).isEmpty());
        Check.isTrue("too many " + less(is, due), less(is, due).isEmpty());
        Check.isTrue("final", Modifier.isFinal(LieKitchen.class.getModifiers()));
        Constructor<?>[] all = LieKitchen.class.getDeclaredConstructors();
        Check.due("constructors", all.length, 1);
        Check.due("the constructor's parameters", all[0].getParameterCount(), 0);
        Check.isTrue("public constructor", Modifier.isPublic(all[0].getModifiers()));
        fields();
        privateNames(is);
        Check.finish();
    }

    private static Set<String> documentFace(String doc) {
        Set<String> face = new TreeSet<>();
        Matcher m = Pattern.compile("    public (int|long) (\\w+)\\((.*)\\);").matcher(doc);
        while (m.find()) {
            String types = m.group(3).replaceAll("(int|long) \\w+", "$1").replace(", ", ",");
            face.add(m.group(1) + " " + m.group(2) + "(" + types + ")");
        }
        return face;
    }

    private static String signature(Method m) {
        StringBuilder s = new StringBuilder(m.getReturnType().getName() + " " + m.getName() + "(");
        for (int i = 0; i < m.getParameterCount(); i++) {
            s.append(i == 0 ? "" : ",").append(m.getParameterTypes()[i].getName());
        }
        return s.append(")").toString();
    }

    private static Set<String> less(Set<String> a, Set<String> b) {
        Set<String> rest = new TreeSet<>(a);
        rest.removeAll(b);
        return rest;
    }

    private static void fields() throws Exception {
        for (Field f : LieKitchen.class.getDeclaredFields()) {
            boolean none = f.getName().equals("NONE");
            Check.isTrue("private: " + f, Modifier.isPrivate(f.getModifiers()) != none);
            if (Modifier.isStatic(f.getModifiers())) {
                Check.isTrue("final: " + f, Modifier.isFinal(f.getModifiers()));
            }
        }
        Check.due("NONE", LieKitchen.class.getField("NONE").getInt(null), -1);
    }

    /** LANGUAGE.md, rule 1: no private method bears the name of a public one. */
    private static void privateNames(Set<String> face) {
        Set<String> names = new TreeSet<>();
        for (String s : face) {
            names.add(s.substring(s.indexOf(' ') + 1, s.indexOf('(')));
        }
        for (Method m : LieKitchen.class.getDeclaredMethods()) {
            Check.isTrue("name: " + m, Modifier.isPublic(m.getModifiers()) || !names.contains(m.getName()));
        }
        for (Class<?> inside : LieKitchen.class.getDeclaredClasses()) {
            Check.isTrue("static: " + inside, Modifier.isStatic(inside.getModifiers()));
            for (Method m : inside.getDeclaredMethods()) {
                Check.isTrue("name: " + m, !names.contains(m.getName()));
            }
        }
    }
}
